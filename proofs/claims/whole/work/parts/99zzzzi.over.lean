/-! the class and the reference in one heap; room -/
section LO
variable {g : e_G} {Z : k_Z} {P : k_P} {U : k_U} {B : Nat → Option e_Cl} {r : Nat × Nat} {M : Nat} {F : Nat → Int32} {A : Nat → Nat → Int32} {own c : Nat} {r0 : Nat × Nat} {S : m_S} {Ψ : e_Q}
theorem m_J71 : m_J.length = 71 := by decide +kernel
theorem l_com (hz : ∀ k, k < 72 → Z.1 (M + k) = 0) : m_H M F A (K_H Z P U (B, r)) = K_H Z P U ((m_H M F A (B, r)).1, r) := by
  refine Prod.ext (funext fun a => ?_) rfl
  show (m_H M F A (K_H Z P U (B, r))).1 a = k_cell Z P U ((m_H M F A (B, r)).1 a) a
  unfold m_H
  dsimp only
  by_cases c1 : a < M
  · rw [if_pos c1, if_pos c1]; rfl
  rw [if_neg c1, if_neg c1]
  by_cases c2 : a = M
  · rw [if_pos c2, if_pos c2]
    have := hz 0 (by omega)
    rw [Nat.add_zero, ← c2] at this
    unfold k_cell
    rw [if_pos this]
  rw [if_neg c2, if_neg c2]
  by_cases c3 : a < M + 72
  · have := hz (a - M) (by omega)
    rw [show M + (a - M) = a by omega] at this
    unfold k_cell
    rw [if_pos this]
    have hl : a - M - 1 < m_J.length := by rw [m_J71]; omega
    rw [List.getElem?_eq_getElem hl]
  · have hl : m_J[a - M - 1]? = none := List.getElem?_eq_none (by rw [m_J71]; omega)
    rw [hl]
    rfl
theorem V.E (h : V own c r0 Z P U r S) : ∃ N, k_E N own Z U r := by
  obtain ⟨N, n, b, l, nl, nw, nr, na, ne, ch, T, hI, hK, hR⟩ := h
  exact ⟨N, hK.1⟩
theorem V.free (h : V own c r0 Z P U r S) : ∀ k, k < 72 → Z.1 (own + 26 + k) = 0 := by
  obtain ⟨N, E⟩ := h.E
  intro k hk
  refine Classical.byContradiction fun hn => ?_
  have := E.2.2.2.2.2.1 _ hn
  omega
theorem sL_list {Bd : Nat} : ∀ (l : List Nat) (f : Nat → Nat) (n : Nat), (∀ a, f a ≤ Bd) → (∀ a, f a ≠ 0 → a ∈ l) → k_sL f n ≤ l.length * Bd
  | [], f, n, _, h => by
    have z : ∀ n, k_sL f n = 0 := fun n => by
      induction n with
      | zero => rfl
      | succ n ih =>
        show k_sL f n + f n = 0
        rw [ih]
        have : f n = 0 := Classical.byContradiction fun q => by cases h n q
        omega
    rw [z]; exact Nat.zero_le _
  | x :: t, f, n, hb, h => by
    have ih := sL_list (Bd := Bd) t (va_up f x 0) n (fun a => by
      by_cases e : a = x
      · rw [e, up_s]; exact Nat.zero_le _
      · rw [up_n e]; exact hb a) (fun a ha => by
      by_cases e : a = x
      · rw [e, up_s] at ha; exact absurd rfl ha
      · rw [up_n e] at ha
        rcases List.mem_cons.mp (h a ha) with q | q
        · exact absurd q e
        · exact q)
    rw [List.length_cons, Nat.add_mul, Nat.one_mul]
    by_cases e : x < n
    · have := k_sL_up (C := f) (v := 0) e
      have := hb x
      omega
    · rw [k_su_out (by omega)] at ih
      omega
def l_ls (own : Nat) (U : k_U) : List Nat := [own + 14, own + 15, own + 16, own + 18] ++ ((List.range 40).map (fun i => (U.2.2 (own + 13) i).getD 0 + 1) ++ (List.range 40).map (fun i => (U.2.2 (own + 13) i).getD 0 + 2))
theorem l_room (h : V own c r0 Z P U r S) (hc : c ≤ 512) : r.1 ≤ r0.1 + 450000 ∧ r.2 ≤ r0.2 + 3000000 ∧ own + 98 ≤ r.1 := by
  obtain ⟨N, n, b, l, nl, nw, nr, na, ne, ch, T, hI, hK, hR⟩ := h
  obtain ⟨-, -, -, -, -, -, ⟨p1, p2, p3, p4, p5, p6, p7⟩, -⟩ := hI
  obtain ⟨E, -⟩ := hK
  have su : k_su Z.2.1 N ≤ 84 * 2300 := by
    have := sL_list (Bd := 2300) (l_ls own U) (fun a => if N.testBit a = true then Z.2.1 a else 0) N (fun a => by
      split
      · exact (E.1.cap a).1
      · exact Nat.zero_le _) (fun a ha => by
      by_cases hb : N.testBit a = true
      · have li := (E.2.2.2.2.2.2 a hb).2
        unfold l_ls
        rcases li with q | q | q | q | ⟨i, x, i1, i2, q⟩
        · rw [q]; exact List.mem_append_left _ (by simp)
        · rw [q]; exact List.mem_append_left _ (by simp)
        · rw [q]; exact List.mem_append_left _ (by simp)
        · rw [q]; exact List.mem_append_left _ (by simp)
        · refine List.mem_append_right _ (List.mem_append.mpr ?_)
          rcases q with q | q
          · exact Or.inl (List.mem_map.mpr ⟨i, List.mem_range.mpr i1, by rw [i2, q]; rfl⟩)
          · exact Or.inr (List.mem_map.mpr ⟨i, List.mem_range.mpr i1, by rw [i2, q]; rfl⟩)
      · rw [if_neg hb] at ha; exact absurd rfl ha)
    have e : (l_ls own U).length = 84 := by
      unfold l_ls
      rw [List.length_append, List.length_append, List.length_map, List.length_map, List.length_range]
      rfl
    rw [e] at this
    exact this
  obtain ⟨q1, q2⟩ := hR
  exact ⟨by omega, by omega, E.2.2.2.2.1⟩
theorem l_conv {k : Nat} {av : List Value} {h h2 : e_Hp} (hc : ∀ H, e_rep g h H → e_rep g h2 H) (e2 : h2.2 = h.2) (q : e_Sc g k av h2 Ψ) : e_Sc g k av h Ψ := by
  obtain ⟨rv, h1, q, n1, n2, hM⟩ := q
  rw [e2] at n1 n2 hM
  refine ⟨rv, h1, q, n1, n2, ?_⟩
  intro p e i1 i2 i3 s m args below hf hap hP hK
  obtain ⟨hav, ⟨hal, hb, hr⟩, hnw⟩ := hP
  exact hM p e i1 i2 i3 s m args below hf hap ⟨hav, ⟨hal, hb, hc _ hr⟩, hnw⟩ hK
theorem l_eqV {h h2 : e_Hp} {a ci N : Nat} {V1 V2 : Nat → Value} {C : vw_C} (hC : vwCl[ci]? = some C) (e : C.2.2 = N) (h1 : h.1 a = some (e_O ci V1)) (h3 : h2.1 a = some (e_O ci V2)) (hv : ∀ k, k < N → V1 k = V2 k) (ho : ∀ c, c ≠ a → h2.1 c = h.1 c) (e2 : h2.2 = h.2) {H : Heap} (hr : e_rep g h H) : e_rep g h2 H := by
  obtain ⟨h0, ar, k1, k2⟩ := hr
  have nl : ∀ c xs cap, h2.1 c = some (e_L xs cap) → c ≠ a := fun c xs cap hc z => by
    rw [z, h3] at hc; cases hc
  refine ⟨by rw [e2]; exact h0, ar, fun c d hc => ?_, fun c xs cap hc hcap => ?_⟩
  · by_cases z : c = a
    · subst z
      rw [h3] at hc
      cases hc
      obtain ⟨q1, C', hC', q2⟩ := k1 c _ h1
      cases hC.symm.trans hC'
      exact ⟨q1, C, hC, q2.to (fun k hk => hv k (by rw [← e]; exact hk))⟩
    · rw [ho c z] at hc
      exact k1 c d hc
  · have z := nl c xs cap hc
    rw [ho c z] at hc
    obtain ⟨x1, x2, x3⟩ := k2 c xs cap hc hcap
    have z2 : ar c ≠ a := fun z => by rw [z, h1] at x2; cases x2
    refine ⟨x1, by rw [ho _ z2]; exact x2, fun c' ys cap' hc' hcap' he => ?_⟩
    have z3 := nl c' ys cap' hc'
    rw [ho c' z3] at hc'
    exact x3 c' ys cap' hc' hcap' he
theorem K_00 {h : e_Hp} : K_H z_00 P U h = h := by
  refine Prod.ext (funext fun a => ?_) rfl
  show k_cell z_00 P U (h.1 a) a = h.1 a
  unfold k_cell
  exact if_pos rfl
theorem n_V0 : ∀ k, k < 102 → e_dv 13 k = n_V 0 0 (fun _ => 0) k := by decide +kernel
theorem n_V0M {k : Nat} : n_V 0 M (fun _ => 0) k = n_V 0 0 (fun _ => 0) k := by
  unfold n_V
  split
  · rw [if_neg (Nat.not_lt_zero _), if_neg (Nat.not_lt_zero _)]
  · rfl
end LO
