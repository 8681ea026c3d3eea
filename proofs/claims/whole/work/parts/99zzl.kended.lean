/-! end: the class beside the reference -/
section UO
variable {Z Z' : k_Z} {P P' : k_P} {U U' : k_U} {r r' : Nat × Nat} {S S2 : m_S} {N own n b l nl nl' nw nr na ne j i c T x : Nat} {ch : Nat → List Nat}
def fp_ed : List Nat := [50, 45, 52, 43, 81, 82, 223, 183]
def fp_rw : List Nat := [140, 141, 142, 143, 144, 145, 146, 147, 149]
theorem K_ended (hI : I_all n b l nl nw nr na ne ch 0 c T S) (hK : K_all N own n b l nl nw nr ne ch 0 Z P U r S) (h1 : 1 ≤ j) (h2 : j ≤ b) (hs : S.2 47 j = 1) (hlv : S.2 51 j = 0) (hi : (v_lv l S.2)[i]? = some j) (kp : Kp j ne n S S2)
    (l3 : v_L nl' (Sf j ne nl i l S2).2 = (v_L nl S.2).filter (fun x => x.1 != nI j)) (w3 : v_W nw (Sf j ne nl i l S2).2 = (v_W nw S.2).filter (fun x => x.1 != nI j))
    (hE : k_E N own Z' U' r') (fZ2 : ∀ a, a < r.1 → Z'.2.2 a = Z.2.2 a)
    (fP : ∀ f a, a < r.1 → f ∉ fp_ed → a ≠ own + 7 → P'.1 f a = P.1 f a) (fT1 : ∀ o, o < n → P'.1 223 (k_th U (own + 1) o) = P.1 223 (k_th U (own + 1) o))
    (fP2 : ∀ a, a < r.1 → a ≠ own + 8 → (∀ o, o < n → a ≠ k_th U (own + 5) o + 1) → (∀ o, o < n → a ≠ k_sp U own o + 3 ∧ a ≠ k_sp U own o + 4) → P'.2 a = P.2 a)
    (pd : ∀ f, f = 50 ∨ f = 45 ∨ f = 43 → ∀ u, 1 ≤ u → u ≤ b → u ≠ j → P'.1 f (dl U own u) = P.1 f (dl U own u)) (pe : P'.1 50 (dl U own j) = nI (ne + 1)) (pl : P'.1 45 (dl U own j) = 0) (ps : P'.1 43 (dl U own j) = 3)
    (pseat : ∀ a ∈ (U.2.1 (own + 15)).eraseIdx i, P'.1 52 a = nI (k_ix a ((U.2.1 (own + 15)).eraseIdx i)))
    (plog : (S.1 15 + 1 < S.1 2 ∧ P'.1 81 (own + 17) = S.1 14 ∧ P'.1 82 (own + 17) = S.1 15 + 1) ∨ (¬ S.1 15 + 1 < S.1 2 ∧ P'.1 81 (own + 17) = nI (nr + 1) ∧ P'.1 82 (own + 17) = 0))
    (hx : r.1 ≤ x) (px : ∀ f ∈ fp_rw, P'.1 f x = k_rwF 4 (nI j) (-1) (-1) 0 0 (nI (ne + 1)) (-1) f)
    (u14 : U'.2.1 (own + 14) = U.2.1 (own + 14)) (u15 : U'.2.1 (own + 15) = (U.2.1 (own + 15)).eraseIdx i) (u16 : U'.2.1 (own + 16) = U.2.1 (own + 16) ++ [dl U own j]) (u18 : U'.2.1 (own + 18) = U.2.1 (own + 18) ++ [x])
    (uh : ∀ o, o < n → U'.2.1 (k_sp U own o + 1) = (k_hl U own o).filter (fun y => decide (¬ Z.2.2 y = dl U own j))) (uq : ∀ o, o < n → U'.2.1 (k_sp U own o + 2) = k_ql U own o) (u22 : U'.2.2 = U.2.2) (uw : ∀ u, 1 ≤ u → u ≤ b → U'.1 (dl U own u) = U.1 (dl U own u))
    (hs1 : k_Sh Z' P' U' (own + 1) n) (hs5 : k_Sh Z' P' U' (own + 5) n) (hS5 : R_sh P' U' (own + 5) n S2.2 40) (hVe : K_ve own n P' U' S2) :
    K_all N own n b (l - 1) nl' nw (nr + 1) (ne + 1) ch 0 Z' P' U' r' (Sf j ne nl i l S2) := by
  obtain ⟨hL, hD, hEn, hLk, hV, hM, hPo, hX⟩ := hI
  obtain ⟨E, kLg, ⟨hs1', hS⟩, ⟨hs5', hS5'⟩, kDe, kEn, kAs, kLk, kVe, kMi⟩ := hK
  have n40 := hL.2.2.1.1
  have d1 := hD.1
  have hil : i < l := by have := (List.getElem?_eq_some_iff.mp hi).1; rw [v_lvl] at this; exact this
  obtain ⟨f1, f2, f3, f4, f5, f6, f7, f8, f9⟩ := kp
  have g1 := hL.1
  have nr6 : nr ≤ 6000 := by
    obtain ⟨p1, p2, p3, _⟩ := hPo
    omega
  have r2 : S2.1 13 = nI nr := (f1 _ (by decide)).trans g1
  obtain ⟨sr1, sr2, sr3⟩ := sf_r (j := j) (e := ne) (nl := nl) (i := i) (l := l) r2 nr6
  obtain ⟨ss1, ss2, ss3⟩ := sf_s (j := j) (e := ne) (nl := nl) (i := i) (l := l) (S2 := S2)
  obtain ⟨sv1, sv2⟩ := sf_lv (j := j) (e := ne) (nl := nl) (S2 := S2) hil
  have sff := sf_f (j := j) (e := ne) (nl := nl) (i := i) (l := l) r2
  have sA2 : ∀ f, f ∉ fp_R → f ∉ fp_L → f ∉ [59, 47, 46] → (Sf j ne nl i l S2).2 f = S2.2 f := fun f a b c => sf_A a b c
  have sF2 : ∀ f, f ∉ [13, 14, 15, 72, 45] → (Sf j ne nl i l S2).1 f = S2.1 f := fun f hf => sf_F hf
  have vlv2 : v_lv l S2.2 = v_lv l S.2 := by unfold v_lv; rw [f3 _ (by decide)]
  rw [vlv2] at sv1
  rw [f3 _ (by decide)] at ss1
  rw [f1 _ (by decide), f1 _ (by decide), f1 _ (by decide)] at sff
  have rw1 : rw_eq nr S.2 (Sf j ne nl i l S2).2 := fun q hq => by
    have := sr2 q hq
    rw [f3 _ (by decide), f3 _ (by decide), f3 _ (by decide), f3 _ (by decide), f3 _ (by decide), f3 _ (by decide), f3 _ (by decide), f3 _ (by decide)] at this
    exact this
  have eO : (Sf j ne nl i l S2).2 61 = va_up (S.2 61) (ne + 1) (nI j) := (sA2 _ (by decide) (by decide) (by decide)).trans f4
  have eN : (Sf j ne nl i l S2).2 58 = va_up (S.2 58) j (nI (ne + 1)) := (sA2 _ (by decide) (by decide) (by decide)).trans f5
  have sA : ∀ f, f ∉ fp_R → f ∉ fp_L → f ∉ [59, 47, 46] → f ∉ [61, 58, 100, 101, 9, 10, 11, 12, 97, 98, 99] → (Sf j ne nl i l S2).2 f = S.2 f := fun f a b c d => (sA2 f a b c).trans (f3 f d)
  have sA' : ∀ f, f ∉ [17, 18, 19, 20, 21, 22, 23, 24, 73, 74, 75, 76, 77, 78, 79, 59, 47, 46, 61, 58, 100, 101, 9, 10, 11, 12, 97, 98, 99] → (Sf j ne nl i l S2).2 f = S.2 f := fun f hf => sA f (fun z => hf (by clear hf; revert f; decide)) (fun z => hf (by clear hf; revert f; decide)) (fun z => hf (by clear hf; revert f; decide)) (fun z => hf (by clear hf; revert f; decide))
  have sF : ∀ f, f ∉ [13, 14, 15, 72, 45, 60, 25, 28, 26, 27] → (Sf j ne nl i l S2).1 f = S.1 f := fun f hf => (sF2 f (fun z => hf (by clear hf; revert f; decide))).trans (f1 f (fun z => hf (by clear hf; revert f; decide)))
  have v2 : ∀ f, f = 9 ∨ f = 10 ∨ f = 11 ∨ f = 12 ∨ f = 97 ∨ f = 98 ∨ f = 99 → (Sf j ne nl i l S2).2 f = S2.2 f := fun f hf => sA2 f (by rcases hf with h | h | h | h | h | h | h <;> subst h <;> decide) (by rcases hf with h | h | h | h | h | h | h <;> subst h <;> decide) (by rcases hf with h | h | h | h | h | h | h <;> subst h <;> decide)
  generalize Sf j ne nl i l S2 = S3 at *
  obtain ⟨e1, e2, e3, e4, e5, e6, e7⟩ := kDe
  have tO := E.2.1
  obtain ⟨a1, a2, a3, a4, a5, a6, a7, a8, a9, a10⟩ := E.1.hse tO
  have t18 := E.1.log a8
  have dlU : ∀ u, dl U' own u = dl U own u := fun u => by unfold dl; rw [u14]
  have spU : ∀ o, k_sp U' own o = k_sp U own o := fun o => by unfold k_sp; rw [u22]
  have thU : ∀ s o, k_th U' s o = k_th U s o := fun s o => by unfold k_th; rw [u22]
  have spt : ∀ o, o < n → Z.1 (k_sp U own o) = 10 := fun o ho => k_sp_t E.1 tO kLk.1 ho
  have t7 : Z.1 (own + 7) = 6 := (E.1.shf a2).2.1
  have n7 : ∀ a, Z.1 a ≠ 6 → a ≠ own + 7 := fun a h z => h (by rw [z]; exact t7)
  have pr : ∀ f a, Z.1 a ≠ 0 → Z.1 a ≠ 6 → f ∉ fp_ed → P'.1 f a = P.1 f a := fun f a z1 z2 z3 => fP f a (E.lt z1) z3 (n7 a z2)
  have td : ∀ u, 1 ≤ u → u ≤ b → Z.1 (dl U own u) = 3 ∧ Z.1 (dl U own u + 1) = 2 ∧ Z.1 (dl U own u + 2) = 105 := fun u u1 u2 => dl_t E e1 u1 u2
  have pD : ∀ f u, 1 ≤ u → u ≤ b → f ∉ fp_ed → P'.1 f (dl U own u) = P.1 f (dl U own u) := fun f u u1 u2 hf => pr f _ (by rw [(td u u1 u2).1]; decide) (by rw [(td u u1 u2).1]; decide) hf
  have hu : undw S.2 j := Or.inl hs
  have undi : ∀ u, undw S3.2 u → u ≠ j ∧ undw S.2 u := fun u h => by
    have hne : u ≠ j := fun e => by subst e; unfold undw at h; rw [ss1, up_s] at h; exact absurd h (by decide)
    refine ⟨hne, ?_⟩
    unfold undw at h ⊢
    rw [ss1, up_n hne] at h
    exact h
  have us : ∀ u, undw S3.2 u ∨ S3.2 47 u = 3 → undw S.2 u ∨ S.2 47 u = 3 := fun u h => by
    rcases h with h | h
    · exact Or.inl (undi u h).2
    · by_cases cu : u = j
      · subst cu; exact Or.inl hu
      · rw [ss1, up_n cu] at h; exact Or.inr h
  have nth : ∀ a, Z.1 a ≠ 108 → ∀ o, o < n → a ≠ k_th U (own + 5) o + 1 := fun a h o ho z => h (by rw [z]; exact (k_th_t E.1 hs5' ho).2)
  have nsp : ∀ a, Z.1 a ≠ 116 → ∀ o, o < n → a ≠ k_sp U own o + 3 ∧ a ≠ k_sp U own o + 4 := fun a h o ho => ⟨fun z => h (by rw [z]; exact (E.1.spt (spt o ho)).2.2.1), fun z => h (by rw [z]; exact (E.1.spt (spt o ho)).2.2.2)⟩
  have t8 : Z.1 (own + 8) = 116 := (E.1.shf a2).2.2
  have p2 : ∀ a, Z.1 a ≠ 0 → Z.1 a ≠ 108 → Z.1 a ≠ 116 → P'.2 a = P.2 a := fun a z0 z1 z2 => fP2 a (E.lt z0) (fun z => z2 (by rw [z]; exact t8)) (nth a z1) (nsp a z2)
  have ace : ac_eq S.2 S3.2 := ⟨sA' _ (by decide), sA' _ (by decide), sA' _ (by decide), sA' _ (by decide), sA' _ (by decide), sA' _ (by decide), sA' _ (by decide), sA' _ (by decide), sA' _ (by decide)⟩
  have rowT : ∀ y ∈ U.2.1 (own + 18), Z.1 y = 8 := fun y hy => E.1.lro t18 hy
  refine ⟨hE, ?_, ⟨hs1, ?_⟩, ⟨hs5, ?_⟩, ?_, ?_, ?_, ?_, ?_, ?_⟩
  · have := kLg.ext (xs := [x]) (S' := S3) (P' := P') (ch' := ch) u18 (List.nodup_cons.mpr ⟨(fun z => by cases z), List.nodup_nil⟩) (fun y hy hm => by
      rw [List.mem_singleton] at hy
      subst hy
      have := E.lt (a := y) (by rw [rowT y hm]; decide)
      omega) rw1 ace (fun f hf y hy => pr f y (by rw [rowT y hy]; decide) (by rw [rowT y hy]; decide) (by clear fP; revert f; decide)) (fun q y hq => by
      have q0 : q = 0 := by
        have := (List.getElem?_eq_some_iff.mp hq).1
        simp at this
        exact this
      subst q0
      have ey : x = y := by simpa using hq
      subst ey
      obtain ⟨r1, r2, r3, r4, r5, r6, r7, r8⟩ := sr3
      rw [Nat.add_zero]
      refine ⟨?_, ?_, by rw [r1]; decide⟩
      · unfold lg_row
        rw [r1, r2, r3, r4, r5, r6, r7, r8, px _ (by decide), px _ (by decide), px _ (by decide), px _ (by decide), px _ (by decide), px _ (by decide), px _ (by decide), px _ (by decide)]
        exact ⟨rfl, rfl, rfl, rfl, rfl, rfl, rfl, rfl⟩
      · rw [px _ (by decide)]; exact Or.inl rfl) (fun u u1 u2 h => ⟨rfl, us u h⟩) (fun u u1 u2 h q hq => ((hL.2.2.2.2.2.2.1 u u1 u2 h).2.2.2.1 q hq).2.2.1)
    exact this
  · refine R_sh.cgU (U := U) ?_ (fun o _ => thU _ _)
    refine hS.keep (fun f hf o ho => ?_) (fun o ho => ?_) (sA' _ (by decide)) (sA' _ (by decide)) (sA' _ (by decide)) (fun o ho => ?_) (fun q q1 q2 => ?_)
    · by_cases cv : f = 223
      · subst cv; exact fT1 o ho
      · have tt := (k_th_t E.1 hs1' ho).1
        exact pr f _ (by rw [tt]; decide) (by rw [tt]; decide) (by rcases hf with h | h | h | h <;> first | (subst h; decide) | exact absurd h cv)
    · have tt := (k_th_t E.1 hs1' ho).2
      have t5 := (E.1.shf hs5'.1).1
      have t1 := (E.1.shf hs1'.1).1
      refine fP2 _ (E.lt (by rw [tt]; decide)) (fun z => by rw [z, t8] at tt; exact absurd tt (by decide)) (fun o' ho' z => ?_) (nsp _ (by rw [tt]; decide))
      have := (E.2.2.2.1 _ o' _ o _ (Or.inl t5) (Or.inl t1) (hs5'.2.2.2 o' ho') (by rw [show k_th U (own + 5) o' = k_th U (own + 1) o by omega]; exact hs1'.2.2.2 o ho)).1
      omega
    · rw [v2 _ (by decide), v2 _ (by decide), v2 _ (by decide)]
      exact f6.1 _ (by omega)
    · rw [v2 _ (by decide)]
      exact f6.2 _ (by omega)
  · refine hS5.keep (fun _ _ _ _ => rfl) (fun _ _ => rfl) (sA2 _ (by decide) (by decide) (by decide)) (sA2 _ (by decide) (by decide) (by decide)) (sA2 _ (by decide) (by decide) (by decide)) (fun o ho => ⟨by rw [v2 _ (by decide)], by rw [v2 _ (by decide)], by rw [v2 _ (by decide)]⟩) (fun q _ _ => by rw [v2 _ (by decide)])
  · have dli : ∀ u ∈ v_lv l S.2, 1 ≤ u ∧ u ≤ b := fun u hm => ⟨((hD.2.2.2.2.2.2.2.2.1 u).mp hm).1, ((hD.2.2.2.2.2.2.2.2.1 u).mp hm).2.1⟩
    have e15 : (U.2.1 (own + 15)).eraseIdx i = ((v_lv l S.2).eraseIdx i).map (dl U own) := by rw [e6, List.eraseIdx_eq_take_drop_succ, List.eraseIdx_eq_take_drop_succ, List.map_append, List.map_take, List.map_drop]
    have nd15 : (U.2.1 (own + 15)).Nodup := by
      rw [e6]
      unfold List.Nodup
      rw [List.pairwise_map]
      refine hD.2.2.2.2.2.2.2.1.imp_of_mem (fun {x y} hx hy hlt e => ?_)
      have := dl_inj e1 e2 (dli x hx).1 (dli x hx).2 (dli y hy).1 (dli y hy).2 e
      omega
    refine ⟨by rw [u14]; exact e1, by rw [u14]; exact e2, fun u u1 u2 => ?_, fun u u1 u2 v v1 v2 v3 => ?_, fun u u1 u2 => ?_, ?_, fun q u hq => ?_⟩
    · rw [dlU]
      refine ⟨by rw [pD _ u u1 u2 (by decide)]; exact (e3 u u1 u2).1, de_prs.mpr (fun p hp => ?_)⟩
      have old := de_prs.mp (e3 u u1 u2).2 p hp
      by_cases c1 : p.1 = 50
      · have q2 : p.2 = 58 := by clear old fP px; revert p; decide
        rw [c1, q2] at old
        rw [c1, q2, eN]
        by_cases cu : u = j
        · subst cu; rw [up_s]; exact pe
        · rw [up_n cu, pd _ (Or.inl rfl) u u1 u2 cu]; exact old
      · by_cases c2 : p.1 = 43
        · have q2 : p.2 = 47 := by clear old fP px c1; revert p; decide
          rw [c2, q2] at old
          rw [c2, q2, ss1]
          by_cases cu : u = j
          · subst cu; rw [up_s]; exact ps
          · rw [up_n cu, pd _ (Or.inr (Or.inr rfl)) u u1 u2 cu]; exact old
        · by_cases c3 : p.1 = 45
          · have q2 : p.2 = 51 := by clear old fP px c1 c2; revert p; decide
            rw [c3, q2] at old
            rw [c3, q2, sA' _ (by decide)]
            by_cases cu : u = j
            · subst cu; rw [hlv]; exact pl
            · rw [pd _ (Or.inr (Or.inl rfl)) u u1 u2 cu]; exact old
          · rw [pD _ u u1 u2 (by clear old fP px; revert p; decide), sA' _ (by clear old fP px; revert p; decide)]
            exact old
    · rw [dlU, p2 _ (by rw [(td u u1 u2).2.2]; decide) (by rw [(td u u1 u2).2.2]; decide) (by rw [(td u u1 u2).2.2]; decide), sA' 54 (by decide)]
      rw [sA' 51 (by decide)] at v2
      exact e4 u u1 u2 v v1 v2 v3
    · rw [dlU]
      obtain ⟨g0, q1, q2, q3⟩ := e5 u u1 u2
      refine ⟨g0, q1, by rw [pD _ u u1 u2 (by decide)]; exact q2, fun h => ?_⟩
      obtain ⟨z1, z2⟩ := q3 (us u h)
      exact ⟨fun z => by have := z1 (undi u z).2; omega, fun q hq => by rw [ar_cg ace]; exact z2 q hq⟩
    · rw [u15, e15, sv1]
      exact List.map_congr_left (fun u _ => (dlU u).symm)
    · rw [dlU]
      rw [sv1] at hq
      have hq2 : ((U.2.1 (own + 15)).eraseIdx i)[q]? = some (dl U own u) := by rw [e15, List.getElem?_map, hq]; rfl
      rw [pseat _ (List.mem_of_getElem? hq2)]
      obtain ⟨ql, qe⟩ := List.getElem?_eq_some_iff.mp hq2
      have := k_ix_get (nd15.sublist (List.eraseIdx_sublist _ i)) ql
      rw [qe] at this
      rw [this]
  · unfold K_en at kEn ⊢
    rw [u16, kEn, List.range_succ, List.map_append]
    congr 1
    · refine List.map_congr_left (fun e he => ?_)
      have := List.mem_range.mp he
      rw [dlU, eO, up_n (by omega)]
    · rw [List.map_singleton, dlU, eO, up_s, i_cl (by omega)]
  · refine kAs.cg u14 (fun u u1 u2 hin => ?_) (sA' _ (by decide))
    have hne : u ≠ j ∧ S.2 47 u = 2 := by
      rcases hin with z | z
      · have cu : u ≠ j := fun e => by subst e; rw [ss1, up_s] at z; exact absurd z (by decide)
        rw [ss1, up_n cu] at z
        exact ⟨cu, z⟩
      · omega
    refine ⟨Or.inl hne.2, fun f hf => pr f _ (by rw [(td u u1 u2).2.1]; decide) (by rw [(td u u1 u2).2.1]; decide) (by clear fP px; revert f; decide), fun f hf => ?_⟩
    by_cases cs : f = 47
    · subst cs; rw [ss1, up_n hne.1]
    · rw [sA' f (by clear fP px; revert f; decide)]
  · have lockT : ∀ o y, o < n → y ∈ k_hl U own o ∨ y ∈ k_ql U own o → Z.1 y = 4 := fun o y ho hy => by
      rcases hy with hy | hy
      · exact E.1.llo (E.1.spt (spt o ho)).1 hy
      · exact E.1.llo (E.1.spt (spt o ho)).2.1 hy
    refine kLk.drop n40 d1 hLk e1 e2 (fun u u1 u2 => (e3 u u1 u2).1) h1 h2 u14 (fun o _ => spU o) (fun o ho => ?_) (fun o ho => ?_) (fun o ho => ?_) (fun o y ho hy => ?_) (fun f hf o y ho hy => ?_) (fun f hf u u1 u2 hne => ?_) (fun o ho => ?_) (fun u u1 u2 => ?_) l3 w3 (fun u hne => by rw [ss1, up_n hne]) ⟨by rw [ss1, up_s]; decide, by unfold undw; rw [ss1, up_s]; decide⟩ (fun u hne => by rw [sA' 51 (by decide)]) (sA' _ (by decide)) (sA' _ (by decide))
    · rw [spU, u22]; exact kLk.1 o ho
    · show U'.2.1 (k_sp U' own o + 1) = _
      rw [spU]; exact uh o ho
    · show U'.2.1 (k_sp U' own o + 2) = _
      rw [spU, uq o ho, eq_comm, List.filter_eq_self]
      intro y hy
      obtain ⟨u, z1, z2, z3, z4, _⟩ := kLk.2.2.2.1 o ho y hy
      refine decide_eq_true (fun z => ?_)
      rw [z4] at z
      have := dl_inj e1 e2 z1 z2 h1 h2 z
      subst this
      rw [hs] at z3
      exact absurd z3 (by decide)
    · exact fZ2 y (E.lt (by rw [lockT o y ho hy]; decide))
    · exact pr f y (by rw [lockT o y ho hy]; decide) (by rw [lockT o y ho hy]; decide) (by clear fP px; revert f; decide)
    · by_cases cs : f = 43
      · exact pd f (Or.inr (Or.inr cs)) u u1 u2 hne
      · exact pD f u u1 u2 (by clear fP px; revert f; decide)
    · exact pr _ _ (by rw [spt o ho]; decide) (by rw [spt o ho]; decide) (by decide)
    · rw [uw u u1 u2]
      by_cases cu : u = j
      · subst cu
        rw [if_pos rfl]
        exact (kLk.2.2.2.2.2 u h1 h2).1 (by rw [hs]; decide)
      · rw [if_neg cu]
  · refine hVe.cg (fun _ => rfl) (fun o ho => ⟨rfl, rfl, rfl⟩) (fun f hf => v2 f ?_)
    simp only [List.mem_cons, List.not_mem_nil, or_false] at hf
    omega
  · have typ : ∀ p ∈ mis, Z.1 (own + p.2.1) ≠ 0 ∧ own + p.2.1 ≠ own + 7 := fun p hp => by
      have : p.2.1 = 0 ∨ p.2.1 = 17 ∨ p.2.1 = 25 ∨ p.2.1 = 19 ∨ p.2.1 = 3 := by clear fP px; revert p; decide
      rcases this with h | h | h | h | h <;> rw [h]
      · exact ⟨by rw [Nat.add_zero, tO]; decide, by omega⟩
      · exact ⟨by rw [a8]; decide, by omega⟩
      · exact ⟨by rw [a10]; decide, by omega⟩
      · exact ⟨by rw [a9]; decide, by omega⟩
      · exact ⟨by rw [show own + 3 = own + 1 + 2 from rfl, (E.1.shf a1).2.1]; decide, by omega⟩
    have o24 : Z.1 (own + 24) = 112 := by rw [show own + 24 = own + 19 + 5 from rfl]; exact (E.1.rng a9).2.2.2.2
    have o4 : Z.1 (own + 4) = 116 := by rw [show own + 4 = own + 1 + 3 from rfl]; exact (E.1.shf a1).2.2
    have e24 : P'.2 (own + 24) = P.2 (own + 24) := p2 _ (by rw [o24]; decide) (by rw [o24]; decide) (by rw [o24]; decide)
    have e04 : P'.2 (own + 4) = P.2 (own + 4) := fP2 _ (E.lt (by rw [o4]; decide)) (by omega) (nth _ (by rw [o4]; decide)) (fun o ho => ⟨fun z => by
      have := spt o ho
      rw [show k_sp U own o = own + 1 by omega, a1] at this
      exact absurd this (by decide), fun z => by
      have := spt o ho
      rw [show k_sp U own o = own by omega, tO] at this
      exact absurd this (by decide)⟩)
    refine kMi.cg (fun p hp => ?_) (fP _ _ (E.lt (by rw [a9]; decide)) (by decide) (by omega)) (sF _ (by decide)) (sF _ (by decide)) e24 (sA' _ (by decide)) (fun q q1 q2 => ?_)
    · by_cases c1 : p.1 = 81
      · have q2 : p.2 = (17, 14) := by clear typ fP px; revert p; decide
        rw [c1, q2]
        refine Or.inr ?_
        rcases sff with ⟨z1, z2, z3⟩ | ⟨z1, z2, z3⟩ <;> rcases plog with ⟨y1, y2, y3⟩ | ⟨y1, y2, y3⟩
        · exact y2.trans z2.symm
        · exact absurd z1 y1
        · exact absurd y1 z1
        · exact y2.trans z2.symm
      · by_cases c2 : p.1 = 82
        · have q2 : p.2 = (17, 15) := by clear typ fP px c1; revert p; decide
          rw [c2, q2]
          refine Or.inr ?_
          rcases sff with ⟨z1, z2, z3⟩ | ⟨z1, z2, z3⟩ <;> rcases plog with ⟨y1, y2, y3⟩ | ⟨y1, y2, y3⟩
          · exact y3.trans z3.symm
          · exact absurd z1 y1
          · exact absurd y1 z1
          · exact y3.trans z3.symm
        · refine Or.inl ⟨fP _ _ (E.lt (typ p hp).1) (by clear typ fP px; revert p; decide) (typ p hp).2, sF _ (by clear typ fP px; revert p; decide)⟩
    · rw [sF _ (by decide)] at q1
      rw [e04, sA' _ (by decide)]
      exact (mi_iff.mp kMi).2.2.2 q q1 q2
end UO
