/-! a lock held already, or granted: the class's side -/
section SG
variable {Z : k_Z} {P P1 : k_P} {U U' : k_U} {r' : Nat × Nat} {S S1 : m_S} {A A' : m_A} {N own n b l nl nl' nw nr na ne t q o m c T sl : Nat} {ch : Nat → List Nat} {v : v_N} {C' : Nat → Nat} {e : Bool}
theorem v_L_cg (h : ∀ f ∈ fp_L, A' f = A f) : v_L nl A' = v_L nl A := by
  unfold v_L v_k
  rw [h _ (by decide), h _ (by decide), h _ (by decide), h _ (by decide), h _ (by decide), h _ (by decide), h _ (by decide)]
theorem v_W_cg (h : ∀ f ∈ fp_W, A' f = A f) : v_W nw A' = v_W nw A := by
  unfold v_W v_w
  rw [h _ (by decide), h _ (by decide), h _ (by decide), h _ (by decide), h _ (by decide), h _ (by decide)]
theorem k_wno {f0 a0 f a : Nat} {x : Int32} (h : f ≠ f0 ∨ a ≠ a0) : (k_wr P f0 a0 x).1 f a = P.1 f a := by
  rcases h with h | h
  · exact k_rn h
  · by_cases c : f = f0
    · subst c; exact k_ra h
    · exact k_rn c
/-- the ints behind an ask that goes on -/
def P_g (P P1 : k_P) (own d m : Nat) (v : v_N) (e : Bool) : k_P := k_wr (k_wr (P_a P P1 own d m v) 67 m (b_v e)) 25 (d + 1) (P1.1 25 (d + 1) + 1)
theorem P_a_old {d : Nat} (hP1 : eqA d P P1) {f a : Nat} (ha : a ≠ m) (h1 : (f ≠ 24 ∧ f ≠ 25) ∨ a ≠ d + 1) (h2 : f ≠ 205) : (P_a P P1 own d m v).1 f a = P.1 f a := by
  unfold P_a
  rw [k_rn h2, k_s1n ha]
  exact hP1.1 f a h1
theorem P_g_old {d : Nat} (hP1 : eqA d P P1) {f a : Nat} (ha : a ≠ m) (h1 : (f ≠ 24 ∧ f ≠ 25) ∨ a ≠ d + 1) (h2 : f ≠ 205) : (P_g P P1 own d m v e).1 f a = P.1 f a := by
  unfold P_g
  rw [k_wno (h1.elim (fun z => Or.inl z.2) Or.inr), k_wno (Or.inr ha)]
  exact P_a_old hP1 ha h1 h2
theorem P_g_new {d : Nat} {f : Nat} (hd : m ≠ d + 1) (h1 : f ≠ 67) (h2 : f ≠ 205) : (P_g P P1 own d m v e).1 f m = FN P d v f := by
  unfold P_g P_a
  rw [k_wno (Or.inr hd), k_wno (Or.inl h1), k_rn h2, k_s1s]
theorem K_gst (hI : I_all n b l nl nw nr na ne ch t c T S) (hK : K_all N own n b l nl nw nr ne ch t Z P U (m, sl) S) (h1 : 1 ≤ t) (h2 : t ≤ b) (st1 : S.2 47 t = 1) (hP1 : eqA (dl U own t) P P1) (ho : o < n) (ov : v.1 = nI o)
    (hs : stp t (q + 1) 1 S S1) (eLA : S1.1 66 = S.1 66 + 1)
    (hq2 : q + 1 ≤ 12) (hsp : ∃ sp, sp ≤ 100 ∧ P1.1 25 (dl U own t + 1) = nI sp ∧ ((P1.1 24 (dl U own t + 1) = 0 ∧ q = sp ∧ sp ≤ dp S.2 (o_1 S.2 t)) ∨ (P1.1 24 (dl U own t + 1) = 1 ∧ q = dp S.2 (o_1 S.2 t) + 1 + sp)))
    {hx : Nat → List Nat} {ex : List v_LT} (eh : ∀ x, x < n → k_hl U' own x = k_hl U own x ++ hx x) (eq' : ∀ x, x < n → k_ql U' own x = k_ql U own x) (e22 : U'.2.2 = U.2.2) (eU1 : U'.1 = U.1) (eUL : ∀ a, Z.1 a ≠ 31 → U'.2.1 a = U.2.1 a) (hr : k_ro N 0 0 Z.2.1 (m + 1, sl + 8) C' r') (w' : k_W N (k_zl Z m (dl U own t)) U')
    (hxs : (hx = (fun _ => []) ∧ ex = []) ∨ (hx = (fun x => if x = o then [m] else []) ∧ ex = [(nI t, v.1, v.2.1, v.2.2.1, v.2.2.2, S.2 51 t, 1)])) (vL : v_L nl' S1.2 = v_L nl S.2 ++ ex) (vW : v_W nw S1.2 = v_W nw S.2) :
    K_all N own n b l nl' nw nr ne ch t (k_zc (k_zl Z m (dl U own t)) C') (P_g P P1 own (dl U own t) m v e) U' r' S1 := by
  have hI0 := hI
  have hK0 := hK
  obtain ⟨hL, hD, hE, hLk, hV, hM, hP, hX⟩ := hI
  obtain ⟨E, kLg, hs1, hs5, kDe, kEn, kAs, kLk, kVe, kMi⟩ := hK
  obtain ⟨d1, d2, d3, d4, d5, d6, d7, d8, d9, d10, d11⟩ := hD
  obtain ⟨e1, e2, e3, e4, e5, e6, e7⟩ := kDe
  obtain ⟨j1, j2, j3, j4, j5, j6⟩ := kLk
  have n40 : n ≤ 40 := hL.2.2.1.1
  have tO := E.2.1
  obtain ⟨a1, a2, a3, a4, a5, a6, a7, a8, a9, a10⟩ := E.1.hse tO
  have tm : Z.1 m = 0 := (E.2.2.1 m (Nat.le_refl _)).1
  have ne : ∀ {a : Nat}, Z.1 a ≠ 0 → a ≠ m := fun h e => h (by rw [e]; exact tm)
  have td := dl_t E e1 h1 h2
  have mne : m ≠ dl U own t + 1 := fun z => ne (by rw [td.2.1]; decide) z.symm
  have dne : ∀ u, 1 ≤ u → u ≤ b → dl U own u ≠ m := fun u u1 u2 => ne (by rw [(dl_t E e1 u1 u2).1]; decide)
  have zm : (k_zc (k_zl Z m (dl U own t)) C').2.2 m = dl U own t := up_s
  have hkf : kfr Z P U (m, sl) (k_zc (k_zl Z m (dl U own t)) C') (P_g P P1 own (dl U own t) m v e) U' := by
    refine ⟨fun a ha => ⟨?_, ?_⟩, fun a _ => by rw [e22], fun a _ h => eUL a h, fun f a ha hf => ?_, fun a ha => ?_⟩
    · exact k_ztn (by dsimp only at ha; omega)
    · exact up_n (by dsimp only at ha; omega)
    · exact P_g_old hP1 (by dsimp only at ha; omega) (Or.inl ⟨nmem hf (by decide), nmem hf (by decide)⟩) (nmem hf (by decide))
    · show P1.2 a = P.2 a
      rw [hP1.2]
  have stt : ∀ u, S1.2 47 u = S.2 47 u := fun u => by
    rw [hs.2.2.1]
    by_cases c : u = t
    · subst c; rw [up_s]; exact st1.symm
    · rw [up_n c]
  have noW : U.1 (dl U own t) = none := (j6 t h1 h2).1 (by rw [st1]; decide)
  have c0 : ¬ t = 0 := by omega
  have spt : ∀ x, x < n → Z.1 (k_sp U own x) = 10 := fun x hx => k_sp_t E.1 tO j1 hx
  have yH : ∀ x, x < n → ∀ y ∈ k_hl U own x, y ≠ m := fun x hx y hy => ne (by rw [E.1.llo (E.1.spt (spt x hx)).1 hy]; decide)
  have yQ : ∀ x, x < n → ∀ y ∈ k_ql U own x, y ≠ m := fun x hx y hy => ne (by rw [E.1.llo (E.1.spt (spt x hx)).2.1 hy]; decide)
  have hxm : ∀ x, ∀ y ∈ hx x, y = m ∧ x = o ∧ hx = (fun x => if x = o then [m] else []) := fun x y hy => by
    rcases hxs with ⟨z, _⟩ | ⟨z, _⟩
    · rw [z] at hy; cases hy
    · have hy' := hy
      rw [z] at hy'
      dsimp only at hy'
      by_cases c : x = o
      · rw [if_pos c, List.mem_singleton] at hy'; exact ⟨hy', c, z⟩
      · rw [if_neg c] at hy'; cases hy'
  have gD : ∀ f u, f ≠ 24 → f ≠ 25 → f ≠ 205 → 1 ≤ u → u ≤ b → (P_g P P1 own (dl U own t) m v e).1 f (dl U own u) = P.1 f (dl U own u) := fun f u z1 z2 z3 u1 u2 => P_g_old hP1 (dne u u1 u2) (Or.inl ⟨z1, z2⟩) z3
  refine K_stp hI0 hK0 hkf hs h1 h2 (E.lock td.1 hr w' e22) (Or.inl ⟨rfl, st1⟩) (Or.inl ⟨rfl, rfl⟩) (fun u u1 u2 => ?_) ?_ (fun u u1 u2 hne => ?_) hq2 ?_ eh (fun x hx' => ?_) (fun x hx' y hy => ?_) (fun x _ => ?_) vL (fun x hx' => ?_) (fun x hx' y hy => ?_) (fun u _ _ _ => by rw [eU1]) ⟨fun _ => by rw [eU1]; exact noW, fun y hy => ?_⟩ (fun x hx' y hy _ => by rw [eq' x hx']; exact hy)
  · rw [stt, gD _ u (by decide) (by decide) (by decide) u1 u2]
    exact (e3 u u1 u2).2.2.2.1
  · unfold P_g P_a
    rw [k_rn (by decide), k_rn (by decide), k_rs, eLA, hP1.1 _ _ (Or.inl (by decide))]
    exact congrArg (fun x => x + 1) kMi.2.2.2.2.2.2.2.2.2.2.1
  · have hdn : dl U own u + 1 ≠ dl U own t + 1 := fun z => hne (dl_inj e1 e2 u1 u2 h1 h2 (by omega))
    have hm' : dl U own u + 1 ≠ m := ne (by rw [(dl_t E e1 u1 u2).2.1]; decide)
    exact ⟨P_g_old hP1 hm' (Or.inr hdn) (by decide), P_g_old hP1 hm' (Or.inr hdn) (by decide)⟩
  · obtain ⟨sp, s0, s1, s2⟩ := hsp
    have el : (P_g P P1 own (dl U own t) m v e).1 24 (dl U own t + 1) = P1.1 24 (dl U own t + 1) := by
      unfold P_g P_a
      rw [k_rn (by decide), k_rn (by decide), k_rn (by decide), k_s1n (fun z => mne z.symm)]
    refine ⟨sp + 1, ?_, ?_⟩
    · unfold P_g
      rw [k_rs, s1, i_a1]
    · rw [el]
      rcases s2 with ⟨x1, x2, x3⟩ | ⟨x1, x2⟩
      · exact Or.inl ⟨x1, by omega, by omega, fun z => absurd z (by decide)⟩
      · exact Or.inr ⟨x1, by omega⟩
  · rw [if_neg c0]
    rcases hxs with ⟨z1, z2⟩ | ⟨z1, z2⟩
    · rw [z1, z2]; rfl
    · rw [z1, z2]
      dsimp only
      unfold v_LO
      by_cases c : x = o
      · subst c
        rw [if_pos rfl, List.filter_cons_of_pos (by simp only [beq_iff_eq]; exact ov)]
        have gm : ∀ f, f ≠ 67 → f ≠ 205 → (P_g P P1 own (dl U own t) m v e).1 f m = FN P (dl U own t) v f := fun f z1 z2 => P_g_new mne z1 z2
        have g1 : FN P (dl U own t) v 65 = S.2 55 t := (e3 t h1 h2).2.2.2.2.2.2.2.1
        have g2 : FN P (dl U own t) v 66 = S.2 51 t := (e3 t h1 h2).2.2.2.2.2.1
        simp only [List.map_cons, List.map_nil, List.filter_nil]
        unfold LV LN
        dsimp only
        rw [zm, gm 61 (by decide) (by decide), gm 62 (by decide) (by decide), gm 63 (by decide) (by decide), gm 64 (by decide) (by decide), gm 66 (by decide) (by decide), gm 65 (by decide) (by decide), gD 40 t (by decide) (by decide) (by decide) h1 h2, gD 47 t (by decide) (by decide) (by decide) h1 h2, (e3 t h1 h2).1, g1, g2, (e3 t h1 h2).2.2.2.2.2.2.2.1, decide_eq_true rfl, decide_eq_true rfl, Bool.or_true, Bool.and_true]
        rfl
      · rw [if_neg c, List.filter_cons_of_neg (by
          simp only [beq_iff_eq]
          rw [ov, i_eq (by omega) (by omega)]
          exact fun z => c z.symm)]
        rfl
  · obtain ⟨y1, y2, y3⟩ := hxm x y hy
    subst y1
    refine ⟨fun z => yH x hx' _ z rfl, zm, ?_⟩
    rw [P_g_new mne (by decide) (by decide)]
    exact (e3 t h1 h2).2.2.2.2.2.2.2.1
  · rcases hxs with ⟨z, _⟩ | ⟨z, _⟩
    · rw [z]; exact List.nodup_nil
    · rw [z]
      dsimp only
      split
      · simp
      · exact List.nodup_nil
  · rw [eq' x hx', vW]
    refine Eq.trans (List.map_congr_left (fun y hy => ?_)) (j2 x hx').2.1
    obtain ⟨u, b1, b2, b3, b4, b5, b6, b7⟩ := j4 x hx' y hy
    have hy := yQ x hx' y hy
    have zy : (k_zc (k_zl Z m (dl U own t)) C').2.2 y = Z.2.2 y := up_n hy
    have gy : ∀ f, f ≠ 24 → f ≠ 25 → f ≠ 205 → (P_g P P1 own (dl U own t) m v e).1 f y = P.1 f y := fun f z1 z2 z3 => P_g_old hP1 hy (Or.inl ⟨z1, z2⟩) z3
    unfold WV
    rw [zy, b4, gD 40 u (by decide) (by decide) (by decide) b1 b2, gy 61 (by decide) (by decide) (by decide), gy 62 (by decide) (by decide) (by decide), gy 63 (by decide) (by decide) (by decide), gy 64 (by decide) (by decide) (by decide), gy 67 (by decide) (by decide) (by decide)]
  · rw [eq' x hx'] at hy
    refine Or.inl ⟨hy, fun z => ?_⟩
    obtain ⟨u, b1, b2, b3, b4, b5, b6, b7⟩ := j4 x hx' y hy
    rw [z] at b4
    have := dl_inj e1 e2 h1 h2 b1 b2 b4
    subst this
    rw [st1] at b3
    exact absurd b3 (by decide)
  · rw [eU1, noW] at hy
    cases hy
end SG
