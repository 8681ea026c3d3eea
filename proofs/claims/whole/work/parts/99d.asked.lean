/-! asking: the class's answer is the reference's -/
section SF
variable {Z : k_Z} {P P1 : k_P} {U : k_U} {r : Nat × Nat} {S S' : m_S} {A A' : m_A} {N own n b l nl nw nr na ne t q o m cur c T sl : Nat} {ch : Nat → List Nat} {v : v_N}
theorem anc_cg (h : A' 5 = A 5) : ∀ (j o : Nat), anc A' o j = anc A o j
  | 0, _ => rfl
  | j + 1, o => by rw [anc, anc, h, anc_cg h j]
theorem needAt_cg (h : ∀ f, f ∉ fp_st → A' f = A f) : needAt A' t q = needAt A t q := by
  unfold needAt legAt L_1 L_2 dp
  simp only [anc_cg (h 5 (by decide)), h 7 (by decide), h 68 (by decide), h 67 (by decide), h 69 (by decide), h 70 (by decide), h 4 (by decide), h 9 (by decide)]
theorem ask_ok (hI : I_all n b l nl nw nr na ne ch cur c T S) (hK : K_all N own n b l nl nw nr ne ch cur Z P U r S) (h1 : 1 ≤ t) (h2 : t ≤ b) (hin : inp S.2 cur t) : askOk n S.2 t := by
  obtain ⟨o, k, e1, ho, e2, hk, har⟩ := hI.2.2.2.2.2.2.2 t h1 h2 hin
  refine ⟨o, k, e1, ho, e2, hk, har, fun s7 => ?_⟩
  have := (hK.2.2.1.2 o ho).2.2.2.2
  rw [Nat.zero_add] at this
  exact this s7
/-- the needs are those of the stage -/
def nds (t q : Nat) (S : m_S) : Prop := ∃ c, c ≤ 12 ∧ S.1 87 = nI c ∧ (∀ v, needAt S.2 t q = some v → q < c ∧ nq S.2 q = v) ∧ (needAt S.2 t q = none → c ≤ q)
/-- beside a new lock, the class's lists are as they were -/
theorem asked_ok (hI : I_all n b l nl nw nr na ne ch t c T S) (hK : K_all N own n b l nl nw nr ne ch t Z P U (m, sl) S) (h1 : 1 ≤ t) (h2 : t ≤ b) (hP1 : eqA (dl U own t) P P1) (ho : o < n) {bb e : Bool} (he : k_ask1 (k_zl Z m (dl U own t)) (P_a P P1 own (dl U own t) m v) m (k_hl U own o) false = (bb, e)) :
    bb = (v_LO (nI o) (v_L nl S.2)).any (v_hf (nI t) v.2.1 v.2.2.1 v.2.2.2) ∧ (bb = false → e = (v_LO (nI o) (v_L nl S.2)).any (fun x => x.1 == nI t) ∧
      ∃ p, p = k_pl (P_a P P1 own (dl U own t) m v) (k_ql U own o) e ∧ v_WO (nI o) ((v_W nw S.2).take (y_seat (nI o) e nw S.2)) = (v_WO (nI o) (v_W nw S.2)).take p ∧ v_WO (nI o) ((v_W nw S.2).drop (y_seat (nI o) e nw S.2)) = (v_WO (nI o) (v_W nw S.2)).drop p ∧
      (k_blk (k_zl Z m (dl U own t)) (P_a P P1 own (dl U own t) m v) (P.1 180 (k_sp U own o)) m ((k_ql U own o).take p) (k_blk (k_zl Z m (dl U own t)) (P_a P P1 own (dl U own t) m v) (P.1 180 (k_sp U own o)) m (k_hl U own o) 0) = 0 ↔
        ((v_LO (nI o) (v_L nl S.2)).any (v_ag (S.2 4 o) (nI t) v.2.1 v.2.2.1 v.2.2.2) || (v_WO (nI o) ((v_W nw S.2).take (y_seat (nI o) e nw S.2))).any (v_agW (S.2 4 o) (nI t) v.2.1 v.2.2.1 v.2.2.2)) = false)) := by
  obtain ⟨hL, hD, hE, hLk, hV, hM, hP, hX⟩ := hI
  obtain ⟨E, kLg, hs1, hs5, kDe, kEn, kAs, kLk, kVe, kMi⟩ := hK
  obtain ⟨d1, d2, d3, d4, d5, d6, d7, d8, d9, d10, d11⟩ := hD
  obtain ⟨e1, e2, e3, e4, e5, e6, e7⟩ := kDe
  obtain ⟨j1, j2, j3, j4, j5, j6⟩ := kLk
  have tO := E.2.1
  have tm : Z.1 m = 0 := (E.2.2.1 m (Nat.le_refl _)).1
  have ne : ∀ {a : Nat}, Z.1 a ≠ 0 → a ≠ m := fun h e => h (by rw [e]; exact tm)
  have spt := k_sp_t E.1 tO j1 ho
  obtain ⟨l1, l2, _, _⟩ := E.1.spt spt
  have yH : ∀ y ∈ k_hl U own o, y ≠ m := fun y hy => ne (by rw [E.1.llo l1 hy]; decide)
  have yQ : ∀ y ∈ k_ql U own o, y ≠ m := fun y hy => ne (by rw [E.1.llo l2 hy]; decide)
  have fY : ∀ f y, y ≠ m → f ≠ 24 → f ≠ 25 → f ≠ 205 → (P_a P P1 own (dl U own t) m v).1 f y = P.1 f y := fun f y h1 h2 h3 h4 => by
    unfold P_a
    rw [k_rn h4, k_s1n h1]
    exact hP1.1 f y (Or.inl ⟨h2, h3⟩)
  have fm : ∀ f, f ≠ 205 → (P_a P P1 own (dl U own t) m v).1 f m = FN P (dl U own t) v f := fun f h => by
    unfold P_a
    rw [k_rn h, k_s1s]
  have zY : ∀ y, y ≠ m → (k_zl Z m (dl U own t)).2.2 y = Z.2.2 y := fun y hy => up_n hy
  have zm : (k_zl Z m (dl U own t)).2.2 m = dl U own t := up_s
  have dne : ∀ u, 1 ≤ u → u ≤ b → dl U own u ≠ m := fun u u1 u2 => ne (by rw [(dl_t E e1 u1 u2).1]; decide)
  have hm2 : (k_hl U own o).map (LV (k_zl Z m (dl U own t)) (P_a P P1 own (dl U own t) m v) (if t = 0 then own else dl U own t)) = (v_LO (nI o) (v_L nl S.2)).map LN := by
    refine Eq.trans (List.map_congr_left (fun y hy => ?_)) (j2 o ho).1
    obtain ⟨u, x, a1, a2, a3, a4, a5, a6⟩ := j3 o ho y hy
    have hy := yH y hy
    have hd := dne u a1 a2
    unfold LV
    rw [zY y hy, a4, fY 40 _ hd (by decide) (by decide) (by decide), fY 47 _ hd (by decide) (by decide) (by decide), fY 43 _ hd (by decide) (by decide) (by decide), fY 61 y hy (by decide) (by decide) (by decide), fY 62 y hy (by decide) (by decide) (by decide), fY 63 y hy (by decide) (by decide) (by decide), fY 64 y hy (by decide) (by decide) (by decide), fY 66 y hy (by decide) (by decide) (by decide), fY 65 y hy (by decide) (by decide) (by decide)]
  have hq2 : (k_ql U own o).map (WV (k_zl Z m (dl U own t)) (P_a P P1 own (dl U own t) m v)) = (v_WO (nI o) (v_W nw S.2)).map WN := by
    refine Eq.trans (List.map_congr_left (fun y hy => ?_)) (j2 o ho).2.1
    obtain ⟨u, a1, a2, a3, a4, a5, a6, a7⟩ := j4 o ho y hy
    have hy := yQ y hy
    have hd := dne u a1 a2
    unfold WV
    rw [zY y hy, a4, fY 40 _ hd (by decide) (by decide) (by decide), fY 61 y hy (by decide) (by decide) (by decide), fY 62 y hy (by decide) (by decide) (by decide), fY 63 y hy (by decide) (by decide) (by decide), fY 64 y hy (by decide) (by decide) (by decide), fY 67 y hy (by decide) (by decide) (by decide)]
  have hdn : ∀ u, 1 ≤ u → u ≤ b → (dl U own u = dl U own t) = ((P_a P P1 own (dl U own t) m v).1 40 (dl U own u) = nI t) := fun u u1 u2 => by
    rw [fY 40 _ (dne u u1 u2) (by decide) (by decide) (by decide), (e3 u u1 u2).1, i_eq (by omega) (by omega)]
    exact propext ⟨fun e => dl_inj e1 e2 u1 u2 h1 h2 e, fun e => by rw [e]⟩
  have hdH : ∀ y ∈ k_hl U own o, ((k_zl Z m (dl U own t)).2.2 y = dl U own t) = ((P_a P P1 own (dl U own t) m v).1 40 ((k_zl Z m (dl U own t)).2.2 y) = nI t) := fun y hy => by
    obtain ⟨u, x, a1, a2, a3, a4, a5, a6⟩ := j3 o ho y hy
    rw [zY y (yH y hy), a4]
    exact hdn u a1 a2
  have hdQ : ∀ y ∈ k_ql U own o, ((k_zl Z m (dl U own t)).2.2 y = dl U own t) = ((P_a P P1 own (dl U own t) m v).1 40 ((k_zl Z m (dl U own t)).2.2 y) = nI t) := fun y hy => by
    obtain ⟨u, a1, a2, a3, a4, a5, a6, a7⟩ := j4 o ho y hy
    rw [zY y (yQ y hy), a4]
    exact hdn u a1 a2
  have hxr : xl_R (k_zl Z m (dl U own t)) (P_a P P1 own (dl U own t) m v) m (dl U own t) v := ⟨zm, fm _ (by decide), fm _ (by decide), fm _ (by decide)⟩
  have seat : ∀ u, 1 ≤ u → u ≤ b → undw S.2 u → ∃ i, i < 32 ∧ (P_a P P1 own (dl U own t) m v).1 52 (dl U own u) = nI i := fun u u1 u2 hu => by
    obtain ⟨i, hi, ei⟩ := List.getElem_of_mem ((d9 u).mpr ⟨u1, u2, hu⟩)
    have hi' := hi
    rw [v_lvl] at hi'
    exact ⟨i, by omega, by rw [fY 52 _ (dne u u1 u2) (by decide) (by decide) (by decide)]; exact e7 i u (by rw [List.getElem?_eq_getElem hi, ei])⟩
  have stH : ∀ y ∈ k_hl U own o, ∃ i, i < 32 ∧ (P_a P P1 own (dl U own t) m v).1 52 ((k_zl Z m (dl U own t)).2.2 y) = nI i := fun y hy => by
    obtain ⟨u, x, a1, a2, a3, a4, a5, a6⟩ := j3 o ho y hy
    rw [zY y (yH y hy), a4]
    exact seat u a1 a2 a3
  have stQ : ∀ y ∈ k_ql U own o, ∃ i, i < 32 ∧ (P_a P P1 own (dl U own t) m v).1 52 ((k_zl Z m (dl U own t)).2.2 y) = nI i := fun y hy => by
    obtain ⟨u, a1, a2, a3, a4, a5, a6, a7⟩ := j4 o ho y hy
    rw [zY y (yQ y hy), a4]
    exact seat u a1 a2 (Or.inr a3)
  obtain ⟨q1, q2⟩ := ask1_ok (Z := k_zl Z m (dl U own t)) (P := P_a P P1 own (dl U own t) m v) (x := m) (k_hl U own o) false
  rw [he] at q1 q2
  dsimp only at q1 q2
  refine ⟨q1.trans (held_ok hm2 hxr hdH), fun hb => ?_⟩
  have hee : e = (v_LO (nI o) (v_L nl S.2)).any (fun x => x.1 == nI t) := by
    rw [q2 hb, Bool.false_or, zm]
    exact ahd_ok hm2 hdH
  refine ⟨hee, ?_⟩
  obtain ⟨p, p1, p2, p3, p4⟩ := seat_ok (o := o) (nw := nw) (A := S.2) (e := e)
  have pk : p = k_pl (P_a P P1 own (dl U own t) m v) (k_ql U own o) e := by
    rw [p1]
    unfold k_pl
    rw [plW_map (Z := k_zl Z m (dl U own t)), hq2, plW_WN]
    have : (k_ql U own o).length = (v_WO (nI o) (v_W nw S.2)).length := by
      have := congrArg List.length hq2
      rw [List.length_map, List.length_map] at this
      exact this
    rw [this]
  refine ⟨p, pk, p3, p4, ?_⟩
  have hq3 : ((k_ql U own o).take p).map (WV (k_zl Z m (dl U own t)) (P_a P P1 own (dl U own t) m v)) = (v_WO (nI o) ((v_W nw S.2).take (y_seat (nI o) e nw S.2))).map WN := by
    rw [p3, List.map_take, hq2, List.map_take]
  have sse := (j2 o ho).2.2
  rw [blk_ok (m := 0) _ _ (fun y hy => stQ y (List.mem_of_mem_take hy)), blk_ok (m := 0) _ _ stH, cfl_ok hm2 hxr hdH, cfq_ok hq3 hxr (fun y hy => hdQ y (List.mem_of_mem_take hy)), sse, Bool.or_eq_false_iff]
  exact ⟨fun z => ⟨z.1.2, z.2⟩, fun z => ⟨⟨rfl, z.1⟩, z.2⟩⟩
theorem k_E.lock (E : k_E N own Z U r) {d s' : Nat} (td : Z.1 d = 3) {C' : Nat → Nat} {r' : Nat × Nat} (hr : k_ro N 0 0 Z.2.1 (r.1 + 1, s') C' r') {U' : k_U} (w' : k_W N (k_zl Z r.1 d) U') (e22 : U'.2.2 = U.2.2) : k_E N own (k_zc (k_zl Z r.1 d) C') U' r' := by
  have E' := E
  obtain ⟨w, t, fr, inj, hN⟩ := E
  have ne : ∀ {a : Nat}, Z.1 a ≠ 0 → (k_zl Z r.1 d).1 a = Z.1 a := fun h => k_ztn (by have := E'.lt h; omega)
  refine ⟨w'.zc hr, ?_, fun a ha => ?_, fun a i a' i' x h1 h2 e1 e2 => ?_, ?_⟩
  · show (k_zl Z r.1 d).1 own = 13
    rw [ne (by rw [t]; decide)]; exact t
  · have h1 : r.1 + 1 ≤ a := Nat.le_trans hr.1 ha
    refine ⟨?_, ?_⟩
    · show (k_zt Z r.1 4).1 a = 0
      rw [k_ztn (by omega)]; exact (fr a (by omega)).1
    · show C' a = 0
      rw [E'.ro hr (by omega)]; exact (fr a (by omega)).2
  · have t1 : ∀ a, (k_zc (k_zl Z r.1 d) C').1 a = 20 ∨ (k_zc (k_zl Z r.1 d) C').1 a = 21 → Z.1 a = 20 ∨ Z.1 a = 21 := fun a h => by
      change (k_zt Z r.1 4).1 a = 20 ∨ (k_zt Z r.1 4).1 a = 21 at h
      by_cases c : a = r.1
      · subst c; rw [k_zts] at h; exact absurd h (by decide)
      · rw [k_ztn c] at h; exact h
    rw [e22] at e1 e2
    exact inj a i a' i' x (t1 a h1) (t1 a' h2) e1 e2
  · exact hN.cg (Nat.le_trans (Nat.le_succ _) hr.1) (fun a ha => k_ztn (by omega)) (by rw [e22])
end SF
