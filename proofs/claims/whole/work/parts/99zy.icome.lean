/-! one begins: the reference's invariants -/
section UB
variable {S S' : m_S} {A : m_A} {n b l nl nw nr na ne c T : Nat} {ch : Nat → List Nat} {rr tr : Int32}
/-- what changes when one begins -/
def come (b l nr : Nat) (rr tr : Int32) (S S' : m_S) : Prop := (∀ f, f ∉ fp_R ++ [46, 47, 49, 50, 53, 58] → S'.2 f = S.2 f) ∧ (∀ f, f ∉ [44, 45, 13] → S'.1 f = S.1 f) ∧ S'.1 44 = nI (b + 1) ∧ S'.1 45 = nI (l + 1) ∧ S'.1 13 = nI (nr + 1) ∧
  S'.2 46 = va_up (S.2 46) l (nI (b + 1)) ∧ S'.2 47 = va_up (S.2 47) (b + 1) 1 ∧ S'.2 49 = va_up (S.2 49) (b + 1) rr ∧ S'.2 50 = va_up (S.2 50) (b + 1) tr ∧ S'.2 53 = va_up (S.2 53) (b + 1) (-9) ∧ S'.2 58 = va_up (S.2 58) (b + 1) (-9) ∧ rw_eq nr S.2 S'.2 ∧ rowAt S'.2 nr 1 (nI (b + 1)) (-1) (-1) 0 0 0 (-1)
theorem come_ok (hr : S.1 13 = nI nr) (hn : nr ≤ 6000) : come b l nr rr tr S (y_come rr tr (b + 1) l S) := by
  have er : (va_up (va_up S.1 44 (nI (b + 1))) 45 (nI (l + 1))) 13 = nI nr := by rw [up_n (by decide), up_n (by decide)]; exact hr
  have hrow := yput_row (S := (va_up (va_up S.1 44 (nI (b + 1))) 45 (nI (l + 1)), va_up (va_up (va_up (va_up (va_up (va_up S.2 46 (va_up (S.2 46) l (nI (b + 1)))) 47 (va_up (S.2 47) (b + 1) 1)) 49 (va_up (S.2 49) (b + 1) rr)) 50 (va_up (S.2 50) (b + 1) tr)) 53 (va_up (S.2 53) (b + 1) (-9))) 58 (va_up (S.2 58) (b + 1) (-9)))) (nr := nr) er hn (w := 1) (t := nI (b + 1)) (o := -1) (k := -1) (a := 0) (b := 0) (c := 0) (u := -1)
  unfold y_come
  refine ⟨fun f h => ?_, fun f h => ?_, ?_, ?_, ?_, ?_, ?_, ?_, ?_, ?_, ?_, fun j hj => ?_, hrow.1⟩
  · have h1 : f ∉ fp_R := fun z => h (List.mem_append_left _ z)
    have h2 : f ∉ [46, 47, 49, 50, 53, 58] := fun z => h (List.mem_append_right _ z)
    rw [yput_A h1]
    dsimp only
    rw [up_n (nmem h2 (by decide)), up_n (nmem h2 (by decide)), up_n (nmem h2 (by decide)), up_n (nmem h2 (by decide)), up_n (nmem h2 (by decide)), up_n (nmem h2 (by decide))]
  · rw [yput_F (nmem h (by decide))]
    dsimp only
    rw [up_n (nmem h (by decide)), up_n (nmem h (by decide))]
  · rw [yput_F (by decide)]; dsimp only; rw [up_n (by decide), up_s]
  · rw [yput_F (by decide)]; dsimp only; rw [up_s]
  · exact yput_r er
  · rw [yput_A (by decide)]; dsimp only; rw [up_n (by decide), up_n (by decide), up_n (by decide), up_n (by decide), up_n (by decide), up_s]
  · rw [yput_A (by decide)]; dsimp only; rw [up_n (by decide), up_n (by decide), up_n (by decide), up_n (by decide), up_s]
  · rw [yput_A (by decide)]; dsimp only; rw [up_n (by decide), up_n (by decide), up_n (by decide), up_s]
  · rw [yput_A (by decide)]; dsimp only; rw [up_n (by decide), up_n (by decide), up_s]
  · rw [yput_A (by decide)]; dsimp only; rw [up_n (by decide), up_s]
  · rw [yput_A (by decide)]; dsimp only; rw [up_s]
  · have := hrow.2 j (by omega)
    dsimp only at this
    rw [up_n (by decide), up_n (by decide), up_n (by decide), up_n (by decide), up_n (by decide), up_n (by decide), up_n (by decide), up_n (by decide), up_n (by decide), up_n (by decide), up_n (by decide), up_n (by decide), up_n (by decide), up_n (by decide), up_n (by decide), up_n (by decide), up_n (by decide), up_n (by decide), up_n (by decide), up_n (by decide), up_n (by decide), up_n (by decide), up_n (by decide), up_n (by decide), up_n (by decide), up_n (by decide), up_n (by decide), up_n (by decide), up_n (by decide), up_n (by decide), up_n (by decide), up_n (by decide), up_n (by decide), up_n (by decide), up_n (by decide), up_n (by decide), up_n (by decide), up_n (by decide), up_n (by decide), up_n (by decide), up_n (by decide), up_n (by decide), up_n (by decide), up_n (by decide), up_n (by decide), up_n (by decide), up_n (by decide), up_n (by decide)] at this
    exact this
/-- none for one more -/
def up1L (G : Nat → List v_3) (t : Nat) : Nat → List v_3 := fun u => if u = t then [] else G u
theorem v_lv_app {A' : m_A} (e : A' 46 = va_up (A 46) l (nI (b + 1))) (hb : b ≤ 400) : v_lv (l + 1) A' = v_lv l A ++ [b + 1] := by
  unfold v_lv
  rw [List.range_succ, List.map_append, e]
  congr 1
  · refine List.map_congr_left (fun i hi => ?_)
    have := List.mem_range.mp hi
    rw [up_n (by omega)]
  · simp only [List.map_cons, List.map_nil]
    rw [up_s, i_cl (by omega)]
theorem I_come (hI : I_all n b l nl nw nr na ne ch 0 c T S) (hc : c + 1 ≤ 512) (hb : b < 400) (hl : l < 12) (hs : come b l nr rr tr S S') : I_all n (b + 1) (l + 1) nl nw (nr + 1) na ne (up1 ch (b + 1) []) 0 (c + 1) (T + 1) S' := by
  obtain ⟨hL, hD, hE, hK, hV, hM, hP, hX⟩ := hI
  obtain ⟨fA, fF, s1, s2, s3, s4, s5, s6, s7, s8, s9, rwe, rwn⟩ := hs
  obtain ⟨d1, d2, d3, d4, d5, d6, d7, d8, d9, d10, d11⟩ := hD
  have ace : ac_eq S.2 S'.2 := ⟨fA _ (by decide), fA _ (by decide), fA _ (by decide), fA _ (by decide), fA _ (by decide), fA _ (by decide), fA _ (by decide), fA _ (by decide), fA _ (by decide)⟩
  have stn : ∀ u, u ≤ b → S'.2 47 u = S.2 47 u := fun u hu => by rw [s5, up_n (by omega)]
  have stb : S'.2 47 (b + 1) = 1 := by rw [s5, up_s]
  obtain ⟨z1, z2, z3, z4, z5, z6, z7⟩ := d4 (b + 1) (by omega) (Or.inr (by omega))
  have un : ∀ u, u ≤ b → (undw S'.2 u ↔ undw S.2 u) := fun u hu => by unfold undw; rw [stn u hu]
  have lve : v_lv (l + 1) S'.2 = v_lv l S.2 ++ [b + 1] := v_lv_app s4 d1
  have lvm : ∀ u ∈ v_lv l S.2, 1 ≤ u ∧ u ≤ b := fun u hu => ⟨((d9 u).mp hu).1, ((d9 u).mp hu).2.1⟩
  have vl : v_L nl S'.2 = v_L nl S.2 := v_L_cg (fun f hf => fA f (by revert f; decide))
  have vw : v_W nw S'.2 = v_W nw S.2 := v_W_cg (fun f hf => fA f (by revert f; decide))
  have split : ∀ u, u ≤ b + 1 → u ≤ b ∨ u = b + 1 := fun u hu => by omega
  have chn : ∀ u, u ≤ b → up1 ch (b + 1) [] u = ch u := fun u hu => up1_n (by omega)
  have chb : up1 ch (b + 1) [] (b + 1) = [] := up1_s
  have inn : ∀ u, 1 ≤ u → u ≤ b + 1 → inp S'.2 0 u → u ≤ b ∧ inp S.2 0 u := fun u u1 u2 z => by
    rcases split u u2 with h | h
    · exact ⟨h, by unfold inp at z ⊢; rw [stn u h] at z; exact z⟩
    · rcases z with z | z
      · rw [h, stb] at z; exact absurd z (by decide)
      · omega
  have lgB : I_lg n b (nr + 1) na (up1 ch (b + 1) []) S' := hL.cg s3 (by omega) rwe (fun j j1 j2 => by
    have : j = nr := by omega
    rw [this]
    exact ⟨row_no (by rw [rwn.1]; decide) (by rw [rwn.1]; decide) (by rw [rwn.1]; decide), by rw [rwn.1]; decide⟩) (fF _ (by decide)) ace (fA _ (by decide)) (fA _ (by decide)) (fA _ (by decide)) (fA _ (by decide)) (fA _ (by decide)) (fA _ (by decide)) (fun u _ hu _ => chn u hu) (fun u _ hu _ => ⟨by rw [fA _ (by decide)], by rw [s8, up_n (by omega)]⟩) (fun u _ hu => ⟨(un u hu).mp, fun z => Or.inr (by rw [stn u hu] at z; exact z)⟩)
  have lg : I_lg n (b + 1) (nr + 1) na (up1 ch (b + 1) []) S' := by
    obtain ⟨g1, g2, g3, g4, g5, g6, g7, g8, g9, g10⟩ := lgB
    refine ⟨g1, g2, g3, g4, g5, fun i hi => ?_, fun u u1 u2 hu => ?_, fun u u1 u2 hu => ?_, fun u u' u1 u2 u3 u4 v1 v2 hne p hp q hq => ?_, g10⟩
    · obtain ⟨r1, r2, r3⟩ := g6 i hi
      refine ⟨r1, fun z => ?_, fun z => ?_⟩
      · obtain ⟨t, o, k, a1, a2, a3, a4⟩ := r2 z
        exact ⟨t, o, k, a1, a2, by omega, a4⟩
      · obtain ⟨t, a1, a2, a3⟩ := r3 z
        exact ⟨t, a1, a2, by omega⟩
    · rcases split u u2 with h | h
      · exact g7 u u1 h hu
      · rw [h, chb]
        refine ⟨?_, by simp, trivial, (fun i hi => by cases hi), List.Pairwise.nil⟩
        rw [fA _ (by decide), z4]; rfl
    · rcases split u u2 with h | h
      · exact g8 u u1 h hu
      · rw [h, chb]
        exact fun o ho => ⟨fun _ _ _ _ => trivial, fun _ _ _ => trivial⟩
    · rcases split u u2 with h | h
      · rcases split u' u4 with h' | h'
        · exact g9 u u' u1 h u3 h' v1 v2 hne p hp q hq
        · rw [h', chb] at hq; cases hq
      · rw [h, chb] at hp; cases hp
  refine ⟨lg, ⟨by omega, s1, fun u u1 u2 => ?_, fun u u1 u2 => ?_, s2, by omega, fun i hi => ?_, ?_, fun u => ?_, Or.inl rfl, fun u u1 u2 hin => ?_⟩, ?_, ?_, hV.cg (fA _ (by decide)) (fA _ (by decide)) (fA _ (by decide)) (fA _ (by decide)) (fA _ (by decide)), hM.cg (by omega) (fun f hf => fF f (by revert f; decide)) (fA _ (by decide)), ?_, fun u u1 u2 hin => ?_⟩
  · rcases split u u2 with h | h
    · obtain ⟨s, lv, m, x, a1, a2, a3, a4, a5, a6, a7, a8, a9, b1, bs, b2⟩ := d3 u u1 h
      exact ⟨s, lv, m, x, by rw [stn u h]; exact a1, a2, a3, by rw [fA _ (by decide)]; exact a4, a5, a6, by rw [fA _ (by decide)]; exact a7, a8, by rw [fA _ (by decide)]; exact a9, b1, bs, fun w w1 w2 => by rw [fA _ (by decide)]; exact b2 w w1 w2⟩
    · rw [h]
      exact ⟨1, 0, 0, 0, stb, by omega, by omega, by rw [fA _ (by decide)]; exact z3, by omega, fun _ => rfl, by rw [fA _ (by decide)]; exact z4, by omega, by rw [fA _ (by decide)]; exact z5, by omega, fun _ => 0, fun w w1 w2 => by omega⟩
  · obtain ⟨y1, y2, y3, y4, y5, y6, y7⟩ := d4 u u1 (by omega)
    have ne : u ≠ b + 1 := by omega
    exact ⟨by rw [s5, up_n ne]; exact y1, by rw [fA _ (by decide)]; exact y2, by rw [fA _ (by decide)]; exact y3, by rw [fA _ (by decide)]; exact y4, by rw [fA _ (by decide)]; exact y5, by rw [fA _ (by decide)]; exact y6, by rw [fA _ (by decide)]; exact y7⟩
  · by_cases e : i = l
    · exact ⟨b + 1, by rw [s4, e, up_s], by omega, by omega⟩
    · obtain ⟨t, t1, t2, t3⟩ := d7 i (by omega)
      exact ⟨t, by rw [s4, up_n e]; exact t1, t2, by omega⟩
  · rw [lve, List.pairwise_append]
    refine ⟨d8, by simp, fun x hx y hy => ?_⟩
    rw [List.mem_singleton] at hy
    have := (lvm x hx).2
    omega
  · rw [lve, List.mem_append, List.mem_singleton, d9 u]
    constructor
    · rintro (⟨h1, h2, h3⟩ | h)
      · exact ⟨h1, by omega, (un u h2).mpr h3⟩
      · rw [h]; exact ⟨by omega, by omega, Or.inl stb⟩
    · rintro ⟨h1, h2, h3⟩
      rcases split u h2 with h | h
      · exact Or.inl ⟨h1, h, (un u h).mp h3⟩
      · exact Or.inr h
  · obtain ⟨h, h'⟩ := inn u u1 u2 hin
    obtain ⟨o', k', q', c1, c2, c3, c4, c5⟩ := d11 u u1 h h'
    exact ⟨o', k', q', by rw [fA _ (by decide)]; exact c1, by rw [fA _ (by decide)]; exact c2, c3, by rw [fA _ (by decide)]; exact c4, c5⟩
  · have hE1 : I_en b ne (nr + 1) (up1 ch (b + 1) []) S' := hE.cg (by omega) rwe (fun j j1 j2 => by rw [show j = nr by omega, rwn.1]; decide) (fF _ (by decide)) (fA _ (by decide)) (fA _ (by decide)) (fA _ (by decide)) (fun u _ hu _ => chn u hu) (fun u _ hu => by rw [s9, up_n (by omega)]) (fun u _ hu => by rw [stn u hu])
    obtain ⟨g1, g2, g3, g4, g5, g6, g7⟩ := hE1
    refine ⟨g1, by omega, g3, fun e he => ?_, fun u u1 u2 hu => ?_, g6, fun u u1 u2 hu => ?_⟩
    · obtain ⟨u, ρ, a1, a2, a3, a4⟩ := g4 e he
      exact ⟨u, ρ, a1, a2, by omega, a4⟩
    · rcases split u u2 with h | h
      · exact g5 u u1 h hu
      · rw [h, stb] at hu; exact absurd hu (by decide)
    · rcases split u u2 with h | h
      · exact g7 u u1 h hu
      · rw [h, s9, up_s]
  · obtain ⟨k1, k2, k3, k4, k5, k6, k7, k8, k9, k10, k11, ⟨kq, G, k13⟩, k12⟩ := hK
    have own0 : ∀ x ∈ v_L nl S.2, x.1 ≠ nI (b + 1) := fun x hx e => by
      obtain ⟨u, _, _, c1, c2, c3, _⟩ := k5 x hx
      rw [c1, i_eq (by omega) (by omega)] at e
      omega
    have ownW : ∀ x ∈ v_W nw S.2, x.1 ≠ nI (b + 1) := fun x hx e => by
      obtain ⟨u, _, c1, c2, c3, _⟩ := k6 x hx
      rw [c1, i_eq (by omega) (by omega)] at e
      omega
    refine ⟨(fF _ (by decide)).trans k1, (fF _ (by decide)).trans k2, k3, by unfold w_ah; rw [fA _ (by decide)]; exact k4, fun y hy => ?_, fun y hy => ?_, by rw [vw]; exact k7, fun u u1 u2 z => ?_, by rw [vl, fA 4 (by decide)]; exact k9, by rw [vl]; exact k10, fun u u1 u2 z => ?_, ⟨by rw [vl, vw]; exact kq, up1L G (b + 1), fun u u1 u2 z => ?_⟩, fun u u1 u2 hu p i hp hkk => ?_⟩
    · rw [vl] at hy
      obtain ⟨u, o', w, c1, c2, c3, c4, c5, c6, c7, c8, c9, g1, g2, g3⟩ := k5 y hy
      exact ⟨u, o', w, c1, c2, by omega, (un u c3).mpr c4, c5, c6, c7, c8, c9, g1, by rw [fA _ (by decide)]; exact g2, g3.imp id (fun z => ⟨z.1, by unfold inp at z ⊢; rw [stn u c3]; exact z.2⟩)⟩
    · rw [vw] at hy
      obtain ⟨u, o', c1, c2, c3, c4, c5, c6, c7, c8, c9, g1, g2⟩ := k6 y hy
      refine ⟨u, o', c1, c2, by omega, by rw [stn u c3]; exact c4, c5, c6, c7, c8, c9, ?_, ?_⟩
      · unfold dp at g1 ⊢
        rw [fA 68 (by decide), fA 71 (by decide), fA 7 (by decide), fA 67 (by decide), fA 69 (by decide)]
        exact g1
      · unfold dp o_1 at g2 ⊢
        rw [fA 68 (by decide), fA 71 (by decide), fA 7 (by decide), fA 67 (by decide), fA 70 (by decide)]
        exact g2
    · rcases split u u2 with h | h
      · rw [vw]; exact k8 u u1 h (by rw [← stn u h]; exact z)
      · rw [h, stb] at z; exact absurd z (by decide)
    · rcases split u u2 with h | h
      · have q1 := k11 u u1 h ((un u h).mp z)
        unfold rem7 dp o_1 at q1 ⊢
        rw [vl, stn u h, fA 55 (by decide), fA 68 (by decide), fA 71 (by decide), fA 7 (by decide), fA 67 (by decide), fA 70 (by decide)]
        exact q1
      · rw [vl, h]
        have q1 : xl (b + 1) (v_L nl S.2) = [] := by
          unfold xl
          exact List.filter_eq_nil_iff.mpr (fun x hx => by rw [decide_eq_false (own0 x hx), Bool.false_and]; decide)
        have q2 : rem7 S'.2 0 (b + 1) = 0 := by
          unfold rem7
          rw [if_neg (fun y => by rcases y with y | y; exact absurd (stb.symm.trans y) (by decide); omega)]
        rw [q1, q2]
        exact Nat.zero_le _
    · rw [vl, vw]
      rcases split u u2 with h | h
      · obtain ⟨j1, j2, j3, j4⟩ := k13 u u1 h ((un u h).mp z)
        have q1 : kd_1 S'.2 u = kd_1 S.2 u := by unfold kd_1; rw [fA 68 (by decide), fA 67 (by decide), fA 70 (by decide)]
        have q2 : kd_2 S'.2 u = kd_2 S.2 u := by unfold kd_2; rw [fA 68 (by decide), fA 67 (by decide), fA 70 (by decide)]
        unfold up1L
        rw [if_neg (by omega), q1, q2, fA 55 (by decide), fA 69 (by decide)]
        exact ⟨j1, j2, j3, fun w => j4 (inn u u1 u2 w).2⟩
      · unfold up1L
        rw [if_pos h, h]
        refine ⟨Nat.zero_le _, fun x hx e _ => absurd e (own0 x hx), fun x hx e _ => absurd e (ownW x hx), fun w => ?_⟩
        have := (inn (b + 1) (by omega) (Nat.le_refl _) w).1
        omega
    · rcases split u u2 with h | h
      · rw [chn u h] at hp
        rw [ace.2.2.1] at hkk
        rw [vl, ace.2.1, ace.2.2.1, ace.2.2.2.1, fA 54 (by decide)]
        exact k12 u u1 h ((un u h).mp hu) p i hp hkk
      · rw [h, chb] at hp; cases hp
  · obtain ⟨p1, p2, p3, p4, p5, p6, p7⟩ := hP
    have key : ∀ (f g : Nat → Nat), (∀ u, u ≤ b → g u = f u) → ((v_lv (l + 1) S'.2).map g).sum = ((v_lv l S.2).map f).sum + g (b + 1) := fun f g h => by
      rw [lve, List.map_append, List.sum_append, sum_cg (fun u hu => h u (lvm u hu).2)]
      simp
    have b2 : ¬ (S'.2 47 (b + 1) = 2 ∨ b + 1 = 0) := fun y => by rcases y with y | y; exact absurd (stb.symm.trans y) (by decide); omega
    refine ⟨by omega, ?_, hc, ?_, ?_, ?_, by rw [fF _ (by decide)]; exact p7⟩
    · rw [key (fun u => (S.2 52 u).toNatClampNeg + 1 + (if S.2 47 u = 2 ∨ u = 0 then 2 else 0)) _ (fun u hu => by rw [stn u hu, fA _ (by decide)]), if_neg b2, fA _ (by decide), z4]
      have : (0 : Int32).toNatClampNeg = 0 := by decide
      omega
    · rw [key (fun u => if S.2 47 u = 2 ∨ u = 0 then 1 else 0) _ (fun u hu => by rw [stn u hu]), if_neg b2]
      omega
    · rw [key (fun u => (S.2 55 u).toNatClampNeg) _ (fun u hu => by rw [fA _ (by decide)]), fA _ (by decide), z5]
      have : (0 : Int32).toNatClampNeg = 0 := by decide
      omega
    · rw [key (fun u => if S.2 47 u = 2 then 11 - (S.2 71 u).toNatClampNeg else if u = 0 then 12 - (S.2 71 u).toNatClampNeg else 0) _ (fun u hu => by rw [stn u hu, fA _ (by decide)]), if_neg (fun y => b2 (Or.inl y)), if_neg (by omega), fF _ (by decide)]
      omega
  · obtain ⟨h, h'⟩ := inn u u1 u2 hin
    obtain ⟨o', k', c1, c2, c3, c4, c5⟩ := hX u u1 h h'
    exact ⟨o', k', by rw [fA _ (by decide)]; exact c1, c2, by rw [fA _ (by decide)]; exact c3, c4, by rw [fA 69 (by decide), fA 70 (by decide)]; exact c5⟩
end UB
