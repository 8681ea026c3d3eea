/-! the reference's methods: pure ones -/
section MA
variable {g : e_G} {Ψ : e_Q} {h : e_Hp}
theorem c_isIn (hg : e_GK g) {v a b : Int32} (q : Ψ (some (.int (b_I (a ≤ v ∧ v ≤ b)))) h) : e_Sc g 153 [.int v, .int a, .int b] h Ψ := by
  refine e_call (cd := cd153) hg ok153 (by rw [mL153]; exact Nat.le_of_ble_eq_true rfl) ?_
  rw [mL153]
  simp only [x_ini, x_inr, x_inn, x_inq, x_inl, x_in0, x_rp0, x_rps, Nat.reduceSub]
  simp (decide := true) only [↓u153_0, ↓u153_14, ↓u153_15, ↓x_nil, ↓x_om, ↓x_iload_0, ↓x_iload_1, ↓x_icmp_lt, ↓x_iload_2, ↓x_icmp_gt, ↓x_iconst_1, ↓x_goto, ↓x_iconst_0, ↓x_ireturn, rt153, true_and, and_true, true_or, or_true, false_or, or_false, reduceCtorEq, false_and, and_false, and_self, or_self, false_implies, true_implies, not_true_eq_false, not_false_eq_true, implies_true, Option.some.injEq]
  refine ⟨fun c => ?_, fun c => ⟨fun c2 => ?_, fun c2 => ?_⟩⟩
  · rw [b_f (fun z => Int32.not_le.mpr c z.1)] at q; exact q
  · rw [b_f (fun z => Int32.not_le.mpr c2 z.2)] at q; exact q
  · rw [b_t ⟨Int32.not_lt.mp c, Int32.not_lt.mp c2⟩] at q; exact q
end MA
