/-! small things for make -/
section VF1
variable {Z Z' : k_Z} {P P' : k_P} {U U' : k_U} {r r' r0 : Nat × Nat} {S : m_S} {A : m_A} {N N' own s n c T x x0 : Nat} {so p v v' : Int32}
theorem sL_le {C C' : Nat → Nat} (h : ∀ a, C a ≤ C' a) : ∀ N : Nat, k_sL C N ≤ k_sL C' N
  | 0 => Nat.le_refl _
  | N + 1 => by
    have := sL_le h N
    have := h N
    rw [k_sL, k_sL]
    omega
theorem sL_ex {C : Nat → Nat} (h : ∀ a, N ≤ a → C a = 0) : ∀ k : Nat, k_sL C (N + k) = k_sL C N
  | 0 => rfl
  | k + 1 => by
    rw [← Nat.add_assoc, k_sL, sL_ex h k, h (N + k) (by omega), Nat.add_zero]
theorem su_ex {C : Nat → Nat} (k : Nat) : k_su C N = k_sL (fun a => if N.testBit a = true then C a else 0) (N + k) := by
  unfold k_su
  rw [sL_ex (fun a ha => if_neg (fun z => by have := k_in.lt (N := N) (a := a) z; omega)) k]
theorem su_mono {C : Nat → Nat} (h : ∀ a, k_in N a → k_in N' a) : k_su C N ≤ k_su C N' := by
  rw [su_ex (N := N) N', su_ex (N := N') N, Nat.add_comm N' N]
  refine sL_le (fun a => ?_) _
  by_cases c : N.testBit a = true
  · rw [if_pos c, if_pos (show N'.testBit a = true from h a c)]; exact Nat.le_refl _
  · rw [if_neg c]; exact Nat.zero_le _
theorem K_ro.mono {C : Nat → Nat} (h : K_ro N c T r0 r C S) (hN : ∀ a, k_in N a → k_in N' a) : K_ro N' c T r0 r C S := by
  have := su_mono (C := C) hN
  obtain ⟨h1, h2⟩ := h
  exact ⟨by omega, by omega⟩
theorem Pt.val (h : Pt N own s n so p v Z P U r x Z' P' U' r') (hv : k_hv so = true → v = v') : Pt N own s n so p v' Z P U r x Z' P' U' r' := by
  obtain ⟨a1, a2, a3, a4, a5, a6, a7, a8, a9, b1, b2, b3, b4, b5, b6, b7⟩ := h
  refine ⟨a1, a2, a3, a4, a5, a6, a7, a8, a9, b1, b2, b3, b4, ?_, b6, b7⟩
  rw [b5]
  by_cases c : k_hv so = true
  · rw [hv c]
  · rw [if_neg c, if_neg c]
/-- the depth of what is put -/
theorem dep_ok (hS : R_sh P U s n A x0) (hn : n ≤ 40) (hp : p = -1 ∨ ∃ q, q < n ∧ p = nI q) : k_dep P U s n p + 1 = if p = -1 then 1 else A 7 p.toNatClampNeg + 1 := by
  unfold k_dep
  rcases hp with h | ⟨q, q1, q2⟩
  · subst h
    rw [if_pos rfl]
    have : k_tO U s n (-1) = none := by
      unfold k_tO
      rw [if_neg (fun z => absurd z.1 (by decide))]
    rw [this]
    rfl
  · have ne : ¬ p = -1 := fun z => by
      rw [q2] at z
      have h0 : (0 : Int32) ≤ nI q := nI_pos' (by omega)
      rw [z] at h0
      exact absurd h0 (by decide)
    rw [if_neg ne, q2, k_tO_s q1 hn, i_cl (by omega)]
    show P.1 222 (k_th U s q) + 1 + 1 = _
    rw [(hS q q1).2.2.1]
end VF1
