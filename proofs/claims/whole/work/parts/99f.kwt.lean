/-! a lock waited for: the class's side -/
section SH
variable {Z : k_Z} {P P1 : k_P} {U U' : k_U} {r' : Nat × Nat} {S S1 : m_S} {A A' : m_A} {N own n b l nl nw nr na ne t q o m c T sl p s : Nat} {ch : Nat → List Nat} {v : v_N} {C' : Nat → Nat} {e : Bool}
/-- the ints behind an ask that waits -/
def P_w (P P1 : k_P) (own d m : Nat) (v : v_N) (e : Bool) : k_P := k_wr (k_wr (P_a P P1 own d m v) 67 m (b_v e)) 43 d 2
theorem P_w_old {d : Nat} (hP1 : eqA d P P1) {f a : Nat} (ha : a ≠ m) (h1 : (f ≠ 24 ∧ f ≠ 25) ∨ a ≠ d + 1) (h2 : f ≠ 205) (h3 : f ≠ 43 ∨ a ≠ d) : (P_w P P1 own d m v e).1 f a = P.1 f a := by
  unfold P_w
  rw [k_wno h3, k_wno (Or.inr ha)]
  exact P_a_old hP1 ha h1 h2
theorem P_w_new {d : Nat} {f : Nat} (hd : m ≠ d) (h1 : f ≠ 67) (h2 : f ≠ 205) : (P_w P P1 own d m v e).1 f m = FN P d v f := by
  unfold P_w P_a
  rw [k_wno (Or.inr hd), k_wno (Or.inl h1), k_rn h2, k_s1s]
theorem K_wt (hI : I_all n b l nl nw nr na ne ch t c T S) (hK : K_all N own n b l nl nw nr ne ch t Z P U (m, sl) S) (h1 : 1 ≤ t) (h2 : t ≤ b) (st1 : S.2 47 t = 1) (hP1 : eqA (dl U own t) P P1) (ho : o < n) (ov : v.1 = nI o)
    (hs : stp t q 2 S S1) (eLA : S1.1 66 = S.1 66 + 1)
    (hq2 : q ≤ 12) (hsp : ∃ sp, sp ≤ 100 ∧ P1.1 25 (dl U own t + 1) = nI sp ∧ ((P1.1 24 (dl U own t + 1) = 0 ∧ q = sp ∧ sp ≤ dp S.2 (o_1 S.2 t)) ∨ (P1.1 24 (dl U own t + 1) = 1 ∧ q = dp S.2 (o_1 S.2 t) + 1 + sp)))
    (eh : ∀ x, x < n → k_hl U' own x = k_hl U own x) (eqo : k_ql U' own o = (k_ql U own o).take p ++ m :: (k_ql U own o).drop p) (eqx : ∀ x, x < n → x ≠ o → k_ql U' own x = k_ql U own x) (e22 : U'.2.2 = U.2.2) (eU1 : U'.1 = va_up U.1 (dl U own t) (some m)) (eUL : ∀ a, Z.1 a ≠ 31 → U'.2.1 a = U.2.1 a) (hr : k_ro N 0 0 Z.2.1 (m + 1, sl + 8) C' r') (w' : k_W N (k_zl Z m (dl U own t)) U')
    (vL : v_L nl S1.2 = v_L nl S.2) (vW : v_W (nw + 1) S1.2 = (v_W nw S.2).take s ++ (nI t, v.1, v.2.1, v.2.2.1, v.2.2.2, b_v e) :: (v_W nw S.2).drop s) (p3 : v_WO (nI o) ((v_W nw S.2).take s) = (v_WO (nI o) (v_W nw S.2)).take p) (p4 : v_WO (nI o) ((v_W nw S.2).drop s) = (v_WO (nI o) (v_W nw S.2)).drop p) :
    K_all N own n b l nl (nw + 1) nr ne ch 0 (k_zc (k_zl Z m (dl U own t)) C') (P_w P P1 own (dl U own t) m v e) U' r' S1 := by
  have hI0 := hI
  have hK0 := hK
  obtain ⟨hL, hD, hE, hLk, hV, hM, hP, hX⟩ := hI
  obtain ⟨E, kLg, hs1, hs5, kDe, kEn, kAs, kLk, kVe, kMi⟩ := hK
  obtain ⟨d1, d2, d3, d4, d5, d6, d7, d8, d9, d10, d11⟩ := hD
  obtain ⟨e1, e2, e3, e4, e5, e6, e7⟩ := kDe
  obtain ⟨j1, j2, j3, j4, j5, j6⟩ := kLk
  have n40 : n ≤ 40 := hL.2.2.1.1
  have tO := E.2.1
  obtain ⟨a1, a2, a3, a4, a5, a6, a7, a8, a9, a10⟩ := E.1.hse tO
  have tm : Z.1 m = 0 := (E.2.2.1 m (Nat.le_refl _)).1
  have ne : ∀ {a : Nat}, Z.1 a ≠ 0 → a ≠ m := fun h e => h (by rw [e]; exact tm)
  have td := dl_t E e1 h1 h2
  have dne : ∀ u, 1 ≤ u → u ≤ b → dl U own u ≠ m := fun u u1 u2 => ne (by rw [(dl_t E e1 u1 u2).1]; decide)
  have mne : m ≠ dl U own t := fun z => dne t h1 h2 z.symm
  have zm : (k_zc (k_zl Z m (dl U own t)) C').2.2 m = dl U own t := up_s
  have hkf : kfr Z P U (m, sl) (k_zc (k_zl Z m (dl U own t)) C') (P_w P P1 own (dl U own t) m v e) U' := by
    refine ⟨fun a ha => ⟨?_, ?_⟩, fun a _ => by rw [e22], fun a _ h => eUL a h, fun f a ha hf => ?_, fun a ha => ?_⟩
    · exact k_ztn (by dsimp only at ha; omega)
    · exact up_n (by dsimp only at ha; omega)
    · exact P_w_old hP1 (by dsimp only at ha; omega) (Or.inl ⟨nmem hf (by decide), nmem hf (by decide)⟩) (nmem hf (by decide)) (Or.inl (nmem hf (by decide)))
    · show P1.2 a = P.2 a
      rw [hP1.2]
  have spt : ∀ x, x < n → Z.1 (k_sp U own x) = 10 := fun x hx => k_sp_t E.1 tO j1 hx
  have yH : ∀ x, x < n → ∀ y ∈ k_hl U own x, y ≠ m := fun x hx y hy => ne (by rw [E.1.llo (E.1.spt (spt x hx)).1 hy]; decide)
  have yQ : ∀ x, x < n → ∀ y ∈ k_ql U own x, y ≠ m := fun x hx y hy => ne (by rw [E.1.llo (E.1.spt (spt x hx)).2.1 hy]; decide)
  have gD : ∀ f u, f ≠ 24 → f ≠ 25 → f ≠ 205 → f ≠ 43 → 1 ≤ u → u ≤ b → (P_w P P1 own (dl U own t) m v e).1 f (dl U own u) = P.1 f (dl U own u) := fun f u z1 z2 z3 z4 u1 u2 => P_w_old hP1 (dne u u1 u2) (Or.inl ⟨z1, z2⟩) z3 (Or.inl z4)
  have hdn : ∀ u, 1 ≤ u → u ≤ b → u ≠ t → dl U own u ≠ dl U own t := fun u u1 u2 hne z => hne (dl_inj e1 e2 u1 u2 h1 h2 z)
  have gm : ∀ f, f ≠ 67 → f ≠ 205 → (P_w P P1 own (dl U own t) m v e).1 f m = FN P (dl U own t) v f := fun f z1 z2 => P_w_new mne z1 z2
  have ge : (P_w P P1 own (dl U own t) m v e).1 67 m = b_v e := by
    unfold P_w
    rw [k_rn (by decide), k_rs]
  have oldW : ∀ x, x < n → ∀ y ∈ k_ql U own x, WV (k_zc (k_zl Z m (dl U own t)) C') (P_w P P1 own (dl U own t) m v e) y = WV Z P y := fun x hx' y hy => by
    obtain ⟨u, b1, b2, b3, b4, b5, b6, b7⟩ := j4 x hx' y hy
    have hy := yQ x hx' y hy
    have zy : (k_zc (k_zl Z m (dl U own t)) C').2.2 y = Z.2.2 y := up_n hy
    have gy : ∀ f, f ≠ 24 → f ≠ 25 → f ≠ 205 → f ≠ 43 → (P_w P P1 own (dl U own t) m v e).1 f y = P.1 f y := fun f z1 z2 z3 z4 => P_w_old hP1 hy (Or.inl ⟨z1, z2⟩) z3 (Or.inl z4)
    unfold WV
    rw [zy, b4, gD 40 u (by decide) (by decide) (by decide) (by decide) b1 b2, gy 61 (by decide) (by decide) (by decide) (by decide), gy 62 (by decide) (by decide) (by decide) (by decide), gy 63 (by decide) (by decide) (by decide) (by decide), gy 64 (by decide) (by decide) (by decide) (by decide), gy 67 (by decide) (by decide) (by decide) (by decide)]
  have newW : WV (k_zc (k_zl Z m (dl U own t)) C') (P_w P P1 own (dl U own t) m v e) m = WN (nI t, v.1, v.2.1, v.2.2.1, v.2.2.2, b_v e) := by
    unfold WV WN
    rw [zm, gD 40 t (by decide) (by decide) (by decide) (by decide) h1 h2, gm 61 (by decide) (by decide), gm 62 (by decide) (by decide), gm 63 (by decide) (by decide), gm 64 (by decide) (by decide), ge, (e3 t h1 h2).1]
    rfl
  have notT : ∀ x, x < n → ∀ y ∈ k_ql U own x, Z.2.2 y ≠ dl U own t := fun x hx' y hy z => by
    obtain ⟨u, b1, b2, b3, b4, b5, b6, b7⟩ := j4 x hx' y hy
    rw [z] at b4
    have := dl_inj e1 e2 h1 h2 b1 b2 b4
    subst this
    rw [st1] at b3
    exact absurd b3 (by decide)
  have memq : ∀ x, x < n → ∀ y, y ∈ k_ql U own x → y ∈ k_ql U' own x := fun x hx' y hy => by
    by_cases c : x = o
    · subst c
      rw [eqo]
      rw [← List.take_append_drop p (k_ql U own x)] at hy
      rcases List.mem_append.mp hy with z | z
      · exact List.mem_append.mpr (Or.inl z)
      · exact List.mem_append.mpr (Or.inr (List.mem_cons_of_mem _ z))
    · rw [eqx x hx' c]; exact hy
  refine K_stp (hx := fun _ => []) (ex := []) hI0 hK0 hkf hs h1 h2 (E.lock td.1 hr w' e22) (Or.inl ⟨rfl, st1⟩) (Or.inr ⟨rfl, rfl⟩) (fun u u1 u2 => ?_) ?_ (fun u u1 u2 hne => ?_) hq2 ?_ (fun x hx' => by rw [eh x hx', List.append_nil]) (fun x hx' => rfl) (fun x hx' y hy => by cases hy) (fun x _ => List.nodup_nil) (by rw [List.append_nil]; exact vL) (fun x hx' => ?_) (fun x hx' y hy => ?_) (fun u u1 u2 hne => by rw [eU1, up_n (hdn u u1 u2 hne)]) ⟨fun z => absurd z (by decide), fun y hy => ?_⟩ (fun x hx' y hy _ => memq x hx' y hy)
  · rw [hs.2.2.1]
    by_cases c : u = t
    · subst c
      rw [up_s]
      unfold P_w
      rw [k_rs]
    · rw [up_n c, P_w_old hP1 (dne u u1 u2) (Or.inl (by decide)) (by decide) (Or.inr (hdn u u1 u2 c))]
      exact (e3 u u1 u2).2.2.2.1
  · unfold P_w P_a
    rw [k_rn (by decide), k_rn (by decide), k_rs, eLA, hP1.1 _ _ (Or.inl (by decide))]
    exact congrArg (fun x => x + 1) kMi.2.2.2.2.2.2.2.2.2.2.1
  · have hd1 : dl U own u + 1 ≠ dl U own t + 1 := fun z => hdn u u1 u2 hne (by omega)
    have hm' : dl U own u + 1 ≠ m := ne (by rw [(dl_t E e1 u1 u2).2.1]; decide)
    exact ⟨P_w_old hP1 hm' (Or.inr hd1) (by decide) (Or.inl (by decide)), P_w_old hP1 hm' (Or.inr hd1) (by decide) (Or.inl (by decide))⟩
  · obtain ⟨sp, s0, s1, s2⟩ := hsp
    have hm' : dl U own t + 1 ≠ m := ne (by rw [td.2.1]; decide)
    have el : ∀ f, f ≠ 67 → f ≠ 205 → f ≠ 43 → (P_w P P1 own (dl U own t) m v e).1 f (dl U own t + 1) = P1.1 f (dl U own t + 1) := fun f z1 z2 z3 => by
      unfold P_w P_a
      rw [k_rn z3, k_rn z1, k_rn z2, k_s1n hm']
    refine ⟨sp, ?_, ?_⟩
    · rw [el _ (by decide) (by decide) (by decide)]; exact s1
    · rw [el _ (by decide) (by decide) (by decide)]
      rcases s2 with ⟨x1, x2, x3⟩ | ⟨x1, x2⟩
      · exact Or.inl ⟨x1, by omega, by omega, fun _ => x3⟩
      · exact Or.inr ⟨x1, by omega⟩
  · rw [vW]
    have spl : ∀ z : Int32, v_WO z ((v_W nw S.2).take s ++ (nI t, v.1, v.2.1, v.2.2.1, v.2.2.2, b_v e) :: (v_W nw S.2).drop s) = v_WO z ((v_W nw S.2).take s) ++ (if v.1 = z then [(nI t, v.1, v.2.1, v.2.2.1, v.2.2.2, b_v e)] else []) ++ v_WO z ((v_W nw S.2).drop s) := fun z => by
      unfold v_WO
      rw [List.filter_append, List.append_assoc]
      congr 1
      by_cases c : v.1 = z
      · rw [if_pos c, List.filter_cons_of_pos (by simp only [beq_iff_eq]; exact c)]; rfl
      · rw [if_neg c, List.filter_cons_of_neg (by simp only [beq_iff_eq]; exact c)]; rfl
    rw [spl]
    by_cases c : x = o
    · subst c
      rw [if_pos ov, eqo, p3, p4, List.map_append, List.map_cons, List.map_append, List.map_append, List.map_cons, List.map_nil, newW, List.append_assoc]
      have old := (j2 x hx').2.1
      congr 1
      · rw [List.map_take (f := WN), ← old, ← List.map_take]
        exact List.map_congr_left (fun y hy => oldW x hx' y (List.mem_of_mem_take hy))
      · rw [List.map_drop (f := WN), ← old, ← List.map_drop]
        show _ = _ :: _
        congr 1
        exact List.map_congr_left (fun y hy => oldW x hx' y (List.mem_of_mem_drop hy))
    · rw [if_neg (by rw [ov, i_eq (by omega) (by omega)]; exact fun z => c z.symm), List.append_nil, eqx x hx' c]
      have : v_WO (nI x) ((v_W nw S.2).take s) ++ v_WO (nI x) ((v_W nw S.2).drop s) = v_WO (nI x) (v_W nw S.2) := by
        unfold v_WO
        rw [← List.filter_append, List.take_append_drop]
      rw [this]
      exact Eq.trans (List.map_congr_left (fun y hy => oldW x hx' y hy)) (j2 x hx').2.1
  · by_cases c : y ∈ k_ql U own x
    · exact Or.inl ⟨c, notT x hx' y c⟩
    · have ym : y = m := by
        by_cases cx : x = o
        · subst cx
          rw [eqo] at hy
          rcases List.mem_append.mp hy with z | z
          · exact absurd (List.mem_of_mem_take z) c
          · rcases List.mem_cons.mp z with z | z
            · exact z
            · exact absurd (List.mem_of_mem_drop z) c
        · rw [eqx x hx' cx] at hy; exact absurd hy c
      subst ym
      refine Or.inr ⟨rfl, zm, by rw [eU1, up_s], ?_, ?_⟩
      · rw [gm _ (by decide) (by decide)]; exact (e3 t h1 h2).2.2.2.2.2.1
      · rw [gm _ (by decide) (by decide)]; exact (e3 t h1 h2).2.2.2.2.2.2.2.1
  · rw [eU1, up_s] at hy
    cases hy
    refine ⟨o, ho, ?_, zm, ?_⟩
    · rw [eqo]; exact List.mem_append.mpr (Or.inr List.mem_cons_self)
    · rw [gm _ (by decide) (by decide)]; exact ov
end SH
