/-! a lock held, granted, waited for: the reference's invariants -/
section SA
variable {S S' : m_S} {A : m_A} {n b l nl nw nr na ne t q o c T : Nat} {ch : Nat → List Nat} {v : v_N}
theorem sum_up {f g : Nat → Nat} : ∀ {l : List Nat}, l.Nodup → t ∈ l → (∀ u ∈ l, u ≠ t → g u = f u) → (l.map g).sum + f t = (l.map f).sum + g t
  | [], _, h, _ => by cases h
  | x :: l, nd, h, e => by
    rw [List.nodup_cons] at nd
    simp only [List.map_cons, List.sum_cons]
    by_cases c : x = t
    · subst c
      have : (l.map g).sum = (l.map f).sum := sum_cg (fun u hu => e u (List.mem_cons_of_mem _ hu) (fun z => nd.1 (z ▸ hu)))
      omega
    · have hm : t ∈ l := by
        rcases List.mem_cons.mp h with z | z
        · exact absurd z.symm c
        · exact z
      have := sum_up nd.2 hm (fun u hu hne => e u (List.mem_cons_of_mem _ hu) hne)
      have e0 := e x List.mem_cons_self c
      omega
theorem lv_mem (h : I_de b l t S) (h1 : 1 ≤ t) : t ∈ v_lv l S.2 ∧ t ≤ b ∧ S.2 47 t = 1 := by
  obtain ⟨d1, d2, d3, d4, d5, d6, d7, d8, d9, d10, d11⟩ := h
  rcases d10 with z | ⟨z1, z2, z3⟩
  · omega
  · exact ⟨(d9 t).mpr ⟨z1, z2, Or.inl z3⟩, z2, z3⟩
/-- what the needs are -/
theorem need_v (hob : R_ob n A) (hk : askOk n A t) (hv : needAt A t q = some v) : ∃ o, o < n ∧ v.1 = nI o ∧ (∃ w, w ≤ 4 ∧ v.2.1 = nI w) ∧ (v.2.1 = 4 → ∃ k, k < 20 ∧ v.2.2.1 = nI k) ∧ (¬ (v.2.1 = 0 ∨ v.2.1 = 1) → (n3 v.2.1 v.2.2.1 v.2.2.2 = n3 (y_lk (kd_1 A t) (A 69 t)) (kd_1 A t) (A 69 t) ∧ q = dp A (o_1 A t)) ∨ (n3 v.2.1 v.2.2.1 v.2.2.2 = n3 (y_lk (kd_2 A t) (A 69 t)) (kd_2 A t) (A 69 t) ∧ dp A (o_1 A t) < q)) ∧ q ≤ dp A (o_1 A t) + 6 ∧ (∀ k, A 68 t = nI k → k < 18 → q = dp A (A 67 t).toNatClampNeg → v.1 = A 67 t ∧ v.2.1 = 4 ∧ v.2.2.1 = nI k ∧ v.2.2.2 = A 69 t) := by
  have n40 := hob.1
  obtain ⟨o1, hL1⟩ := o1_L1 hk n40
  obtain ⟨o, k, h1, ho, h2, hk2, har, hsl⟩ := hk
  have co : (A 67 t).toNatClampNeg = o := by rw [h1, i_cl (by omega)]
  have ck : (A 68 t).toNatClampNeg = k := by rw [h2, i_cl (by omega)]
  have kk : ∀ m : Nat, m < 22 → (A 68 t = nI m) = (k = m) := fun m hm => by rw [h2, i_eq (by omega) (by omega)]
  have k19 : (A 68 t = 19) = (k = 19) := kk 19 (by omega)
  have lkw : ∀ (k : Nat) (a : Int32), k < 22 → (∃ w, w ≤ 4 ∧ y_lk (nI k) a = nI w) ∧ ¬ (y_lk (nI k) a = 0 ∨ y_lk (nI k) a = 1) ∧ (y_lk (nI k) a = 4 → k < 20) ∧ (k < 18 → y_lk (nI k) a = 4) := fun k a hk => by
    unfold y_lk
    by_cases c20 : k = 20
    · subst c20
      rw [if_pos (by decide)]
      exact ⟨⟨2, by omega, rfl⟩, by decide, fun z => absurd z (by decide), fun z => by omega⟩
    · rw [if_neg (fun z => c20 (by rw [show (20 : Int32) = nI 20 from rfl, i_eq (by omega) (by omega)] at z; exact z))]
      by_cases c21 : k = 21
      · subst c21
        rw [if_pos (by decide)]
        by_cases ca : a = 0
        · rw [if_pos ca]; exact ⟨⟨2, by omega, rfl⟩, by decide, fun z => absurd z (by decide), fun z => by omega⟩
        · rw [if_neg ca]; exact ⟨⟨3, by omega, rfl⟩, by decide, fun z => absurd z (by decide), fun z => by omega⟩
      · rw [if_neg (fun z => c21 (by rw [show (21 : Int32) = nI 21 from rfl, i_eq (by omega) (by omega)] at z; exact z))]
        exact ⟨⟨4, by omega, rfl⟩, by decide, fun _ => by omega, fun _ => rfl⟩
  have leg : ∀ (x : Nat × Nat) (j : Nat), x.1 < n → x.2 < 22 → j ≤ dp A x.1 → ∃ o, o < n ∧ (legAt A x (A 69 t) j).1 = nI o ∧ (∃ w, w ≤ 4 ∧ (legAt A x (A 69 t) j).2.1 = nI w) ∧ ((legAt A x (A 69 t) j).2.1 = 4 → ∃ k, k < 20 ∧ (legAt A x (A 69 t) j).2.2.1 = nI k) ∧ (¬ ((legAt A x (A 69 t) j).2.1 = 0 ∨ (legAt A x (A 69 t) j).2.1 = 1) → j = dp A x.1 ∧ legAt A x (A 69 t) j = (nI x.1, y_lk (nI x.2) (A 69 t), nI x.2, A 69 t)) ∧ (j = dp A x.1 → legAt A x (A 69 t) j = (nI x.1, y_lk (nI x.2) (A 69 t), nI x.2, A 69 t)) := fun x j hx hx2 hj => by
    obtain ⟨a1, a2⟩ := dp_ok hob hx
    unfold legAt
    by_cases c : j < dp A x.1
    · rw [if_pos c]
      refine ⟨_, ((anc_ok hob _ x.1 hx a1 a2).2 (dp A x.1 - j) (by omega)).1, rfl, ?_, fun z => ?_, fun z => ?_, fun z => by omega⟩
      · dsimp only
        split
        · exact ⟨0, by omega, rfl⟩
        · exact ⟨1, by omega, rfl⟩
      · dsimp only at z
        split at z <;> exact absurd z (by decide)
      · dsimp only at z
        split at z <;> exact absurd (by decide) z
    · rw [if_neg c]
      obtain ⟨b1, b2, b3, b4⟩ := lkw x.2 (A 69 t) hx2
      exact ⟨x.1, hx, rfl, b1, fun z => ⟨x.2, b3 z, rfl⟩, fun _ => ⟨by omega, rfl⟩, fun _ => rfl⟩
  have hk1 : (L_1 A t).2 < 22 ∧ nI (L_1 A t).2 = kd_1 A t := by
    unfold L_1 kd_1
    rw [co, ck]
    by_cases c19 : k = 19
    · obtain ⟨b, b1, b2, b3⟩ := har.2.2.2.2 c19
      have cb : (A 70 t).toNatClampNeg = b := by rw [b3, i_cl (by omega)]
      rw [if_pos c19, cb, if_pos (show A 68 t = 19 from by rw [k19]; exact c19), h1, b3]
      by_cases c : o < b
      · rw [if_pos c, if_pos (show nI o < nI b from by rw [i_lt (by omega) (by omega)]; exact c)]; exact ⟨by dsimp only; omega, rfl⟩
      · rw [if_neg c, if_neg (show ¬ nI o < nI b from by rw [i_lt (by omega) (by omega)]; exact c)]; exact ⟨by dsimp only; omega, rfl⟩
    · rw [if_neg c19, if_neg (show ¬ A 68 t = 19 from by rw [k19]; exact c19)]; exact ⟨hk2, h2.symm⟩
  have hk2' : ∀ y, L_2 A t = some y → y.1 < n ∧ y.2 < 22 ∧ nI y.2 = kd_2 A t := fun y hy => by
    unfold L_2 at hy
    unfold kd_2
    rw [co, ck] at hy
    by_cases c19 : k = 19
    · obtain ⟨b, b1, b2, b3⟩ := har.2.2.2.2 c19
      have cb : (A 70 t).toNatClampNeg = b := by rw [b3, i_cl (by omega)]
      rw [if_pos c19, cb] at hy
      rw [if_pos (show A 68 t = 19 from by rw [k19]; exact c19), h1, b3]
      cases hy
      by_cases c : o < b
      · rw [if_pos c, if_pos (show nI o < nI b from by rw [i_lt (by omega) (by omega)]; exact c)]; exact ⟨b1, by dsimp only; omega, rfl⟩
      · rw [if_neg c, if_neg (show ¬ nI o < nI b from by rw [i_lt (by omega) (by omega)]; exact c)]; exact ⟨ho, by dsimp only; omega, rfl⟩
    · rw [if_neg c19] at hy
      rw [if_neg (show ¬ A 68 t = 19 from by rw [k19]; exact c19)]
      by_cases c18 : k = 18 ∧ A 4 o = 7 ∧ ¬ A 9 o = -1
      · rw [if_pos c18] at hy
        cases hy
        rcases hsl c18.2.1 with z | ⟨p, p1, p2⟩
        · exact absurd z c18.2.2
        · exact ⟨by dsimp only; rw [p2, i_cl (by omega)]; exact p1, by dsimp only; omega, rfl⟩
      · rw [if_neg c18] at hy; cases hy
  rw [o1]
  unfold needAt at hv
  by_cases c : q ≤ dp A (L_1 A t).1
  · rw [if_pos c] at hv
    cases hv
    obtain ⟨p, p1, p2, p3, p4, p5, p6⟩ := leg (L_1 A t) q hL1 hk1.1 c
    refine ⟨p, p1, p2, p3, p4, fun z => Or.inl ?_, by omega, fun k' e hk' eq => ?_⟩
    · obtain ⟨z1, z2⟩ := p5 z
      rw [z2]
      dsimp only
      rw [hk1.2]
      exact ⟨rfl, z1⟩
    · have ek : k' = k := by rw [h2, i_eq (by omega) (by omega)] at e; exact e.symm
      subst ek
      have e19 : ¬ k' = 19 := by omega
      have el : L_1 A t = (o, k') := by unfold L_1; rw [co, ck, if_neg e19]
      rw [el] at p6 ⊢
      rw [co] at eq
      rw [p6 eq, h1]
      dsimp only
      rw [(lkw k' (A 69 t) hk2).2.2.2 hk']
      exact ⟨rfl, rfl, rfl, rfl⟩
  · rw [if_neg c] at hv
    cases e2 : L_2 A t with
    | none => rw [e2] at hv; cases hv
    | some y =>
      rw [e2] at hv
      dsimp only at hv
      obtain ⟨y1, y2, y3⟩ := hk2' y e2
      have y5 := (dp_ok hob y1).2
      by_cases c2 : q - (dp A (L_1 A t).1 + 1) ≤ dp A y.1
      · rw [if_pos c2] at hv
        cases hv
        obtain ⟨p, p1, p2, p3, p4, p5, p6⟩ := leg y _ y1 y2 c2
        refine ⟨p, p1, p2, p3, p4, fun z => Or.inr ?_, by omega, fun k' e hk' eq => ?_⟩
        · obtain ⟨z1, z2⟩ := p5 z
          rw [z2]
          dsimp only
          rw [y3]
          exact ⟨rfl, by omega⟩
        · exfalso
          have ek : k' = k := by rw [h2, i_eq (by omega) (by omega)] at e; exact e.symm
          subst ek
          have e19 : ¬ k' = 19 := by omega
          have el : L_1 A t = (o, k') := by unfold L_1; rw [co, ck, if_neg e19]
          have c' : ¬ q ≤ dp A o := fun z => c (by rw [el]; exact z)
          rw [co] at eq
          omega
      · rw [if_neg c2] at hv; cases hv
end SA
