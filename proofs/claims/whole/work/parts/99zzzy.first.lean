/-! what holds when both are made -/
section WB
variable {own a k f : Nat} {Z : k_Z} {P : k_P} {U : k_U} {r : Nat × Nat}
def z_00 : k_Z := (fun _ => 0, fun _ => 0, fun _ => 0)
def p_00 : k_P := (fun _ _ => 0, fun _ _ => 0)
def u_00 : k_U := (fun _ => none, fun _ => [], fun _ _ => none)
def hT (k : Nat) : Nat := [13, 9, 20, 6, 116, 9, 20, 6, 116, 9, 20, 6, 116, 21, 30, 30, 30, 5, 32, 7, 112, 112, 112, 112, 112, 11].getD k 0
theorem zt_if {n t b : Nat} : (k_zt Z n t).1 b = if b = n then t else Z.1 b := by
  by_cases c : b = n
  · subst c; rw [k_zts, if_pos rfl]
  · rw [k_ztn c, if_neg c]
theorem hz_t : ∀ k, k ≤ 25 → (k_HZ z_00 own).1 (own + k) = hT k := by
  intro k hk
  have : k = 0 ∨ k = 1 ∨ k = 2 ∨ k = 3 ∨ k = 4 ∨ k = 5 ∨ k = 6 ∨ k = 7 ∨ k = 8 ∨ k = 9 ∨ k = 10 ∨ k = 11 ∨ k = 12 ∨ k = 13 ∨ k = 14 ∨ k = 15 ∨ k = 16 ∨ k = 17 ∨ k = 18 ∨ k = 19 ∨ k = 20 ∨ k = 21 ∨ k = 22 ∨ k = 23 ∨ k = 24 ∨ k = 25 := by omega
  unfold k_HZ k_H9 k_H7 k_H3 k_zQ k_zG k_zS k_zR
  rcases this with h | h | h | h | h | h | h | h | h | h | h | h | h | h | h | h | h | h | h | h | h | h | h | h | h | h <;> subst h <;> (repeat (first | rw [zt_if, if_pos (by omega)] | rw [zt_if, if_neg (by omega)])) <;> rfl
theorem hz_o (h : a < own ∨ own + 26 ≤ a) : (k_HZ z_00 own).1 a = 0 := by
  unfold k_HZ k_H9 k_H7 k_H3 k_zQ k_zG k_zS k_zR
  repeat rw [zt_if, if_neg (by omega)]
  rfl
theorem hz_e {v : Nat} (h : (k_HZ z_00 own).1 a = v) (hv : v ≠ 0) : ∃ k, k ≤ 25 ∧ a = own + k ∧ hT k = v := by
  by_cases c : a < own ∨ own + 26 ≤ a
  · rw [hz_o c] at h; exact absurd h.symm hv
  · refine ⟨a - own, by omega, by omega, ?_⟩
    rw [← hz_t _ (by omega), show own + (a - own) = a by omega]
    exact h
theorem hu_1 : (k_HU u_00 own).1 a = none := rfl
theorem hu_2 : (k_HU u_00 own).2.1 a = [] := by
  unfold k_HU
  have wl : ∀ (V : k_U) (x : Nat), V.2.1 a = [] → (k_wl V x []).2.1 a = [] := fun V x h => by
    by_cases c : a = x
    · subst c; exact k_ls
    · rw [k_ln c]; exact h
  exact wl _ _ (wl _ _ (wl _ _ (wl _ _ rfl)))
theorem hu_3 {i : Nat} : (k_HU u_00 own).2.2 a i = none := by
  have wx : ∀ (V : k_U) (x : Nat), V.2.2 a i = none → (k_wx V x (fun _ => none)).2.2 a i = none := fun V x h => by
    by_cases c : a = x
    · subst c; rw [k_xs]
    · rw [k_xn c]; exact h
  unfold k_HU k_uS
  exact wx _ _ (wx _ _ (wx _ _ (wx _ _ rfl)))
def h_N (own : Nat) : Nat := 2 ^ (own + 14) ||| (2 ^ (own + 15) ||| (2 ^ (own + 16) ||| 2 ^ (own + 18)))
theorem hN_in : k_in (h_N own) a ↔ a = own + 14 ∨ a = own + 15 ∨ a = own + 16 ∨ a = own + 18 := by
  unfold k_in h_N
  rw [Nat.testBit_or, Nat.testBit_or, Nat.testBit_or, Nat.testBit_two_pow, Nat.testBit_two_pow, Nat.testBit_two_pow, Nat.testBit_two_pow, Bool.or_eq_true, Bool.or_eq_true, Bool.or_eq_true, decide_eq_true_eq, decide_eq_true_eq, decide_eq_true_eq, decide_eq_true_eq]
  constructor
  · rintro (h | h | h | h)
    · exact Or.inl h.symm
    · exact Or.inr (Or.inl h.symm)
    · exact Or.inr (Or.inr (Or.inl h.symm))
    · exact Or.inr (Or.inr (Or.inr h.symm))
  · rintro (h | h | h | h)
    · exact Or.inl h.symm
    · exact Or.inr (Or.inl h.symm)
    · exact Or.inr (Or.inr (Or.inl h.symm))
    · exact Or.inr (Or.inr (Or.inr h.symm))
theorem hT_13 : ∀ k, k ≤ 25 → hT k = 13 → k = 0 := by decide
theorem hT_9 : ∀ k, k ≤ 25 → hT k = 9 → k ≤ 23 ∧ hT (k + 1) = 20 ∧ hT (k + 2) = 6 := by decide
theorem hT_6 : ∀ k, k ≤ 25 → hT k = 6 → k ≤ 24 ∧ hT (k + 1) = 116 := by decide
theorem hT_7 : ∀ k, k ≤ 25 → hT k = 7 → k = 19 := by decide
theorem hT_5 : ∀ k, k ≤ 25 → hT k = 5 → k = 17 := by decide
theorem hT_L : ∀ k, k ≤ 25 → 30 ≤ hT k ∧ hT k ≤ 32 → k = 14 ∨ k = 15 ∨ k = 16 ∨ k = 18 := by decide
theorem hT_n : ∀ k, k ≤ 25 → hT k ≠ 12 ∧ hT k ≠ 10 ∧ hT k ≠ 3 ∧ hT k ≠ 4 := by decide
theorem first_E : k_E (h_N own) own (k_HZ z_00 own) (k_HU u_00 own) (own + 98, r.2) := by
  have T : ∀ k, k ≤ 25 → (k_HZ z_00 own).1 (own + k) = hT k := hz_t
  refine ⟨⟨fun a t => ?_, fun a t => ?_, fun a t => ?_, fun a t => ?_, fun a t => ?_, fun a t => ?_, fun a t => ?_, fun a t => ?_, fun a t => ?_, (fun a i x _ h => by rw [hu_3] at h; cases h), (fun a i x _ h => by rw [hu_3] at h; cases h), (fun a x _ h => by rw [hu_1] at h; cases h), (fun a x _ h => by rw [hu_2] at h; cases h), (fun a x _ h => by rw [hu_2] at h; cases h), (fun a x _ h => by rw [hu_2] at h; cases h), fun a t => ?_, fun a => ⟨Nat.zero_le _, Or.inl rfl⟩⟩, T 0 (by omega), fun a ha => ⟨?_, rfl⟩, (fun a i a' i' x _ _ h _ => by rw [hu_3] at h; cases h), Nat.le_refl _, fun a ha => ?_, fun a ha => ?_⟩
  · obtain ⟨k, k1, rfl, k2⟩ := hz_e t (by decide)
    have k0 := hT_13 k k1 k2
    subst k0
    exact ⟨T 1 (by omega), T 5 (by omega), T 9 (by omega), T 13 (by omega), T 14 (by omega), T 15 (by omega), T 16 (by omega), T 17 (by omega), T 19 (by omega), T 25 (by omega)⟩
  · obtain ⟨k, k1, rfl, k2⟩ := hz_e t (by decide)
    obtain ⟨k3, k4, k5⟩ := hT_9 k k1 k2
    exact ⟨by rw [Nat.add_assoc, T _ (by omega)]; exact k4, by rw [Nat.add_assoc, T _ (by omega)]; exact k5⟩
  · obtain ⟨k, k1, rfl, k2⟩ := hz_e t (by decide)
    obtain ⟨k3, k4⟩ := hT_6 k k1 k2
    rw [Nat.add_assoc, T _ (by omega)]; exact k4
  · obtain ⟨k, k1, rfl, k2⟩ := hz_e t (by decide)
    exact absurd k2 (hT_n k k1).1
  · obtain ⟨k, k1, rfl, k2⟩ := hz_e t (by decide)
    exact absurd k2 (hT_n k k1).2.1
  · obtain ⟨k, k1, rfl, k2⟩ := hz_e t (by decide)
    exact absurd k2 (hT_n k k1).2.2.1
  · obtain ⟨k, k1, rfl, k2⟩ := hz_e t (by decide)
    have k0 := hT_7 k k1 k2
    subst k0
    exact ⟨T 20 (by omega), T 21 (by omega), T 22 (by omega), T 23 (by omega), T 24 (by omega)⟩
  · obtain ⟨k, k1, rfl, k2⟩ := hz_e t (by decide)
    have k0 := hT_5 k k1 k2
    subst k0
    exact T 18 (by omega)
  · obtain ⟨k, k1, rfl, k2⟩ := hz_e t (by decide)
    exact absurd k2 (hT_n k k1).2.2.2
  · unfold k_tL at t
    obtain ⟨k, k1, e, k2⟩ := hz_e (a := a) (v := (k_HZ z_00 own).1 a) rfl (by omega)
    rw [← k2] at t
    rcases hT_L k k1 t with h | h | h | h <;> subst h <;> rw [e] <;> rw [hN_in] <;> omega
  · have ha : own + 98 ≤ a := ha
    exact hz_o (by omega)
  · obtain ⟨k, k1, e, k2⟩ := hz_e (a := a) rfl ha
    exact ⟨by omega, Or.inl (by omega)⟩
  · rcases hN_in.mp ha with h | h | h | h
    · exact ⟨by show a < own + 98; omega, Or.inl h⟩
    · exact ⟨by show a < own + 98; omega, Or.inr (Or.inl h)⟩
    · exact ⟨by show a < own + 98; omega, Or.inr (Or.inr (Or.inl h))⟩
    · exact ⟨by show a < own + 98; omega, Or.inr (Or.inr (Or.inr (Or.inl h)))⟩
def S_0 : m_S := (va_up (va_up (fun _ => 0) 1 200) 2 1, fun _ _ => 0)
theorem first_I : I_all 0 0 0 0 0 0 0 0 (fun _ => []) 0 0 0 S_0 := by
  refine ⟨⟨rfl, rfl, ⟨by omega, fun o ho => by omega⟩, rfl, by omega, fun i hi => by omega, fun t t1 t2 => by omega, fun t t1 t2 => by omega, fun t t' t1 t2 => by omega, fun x _ => ⟨0, by omega, rfl⟩⟩,
    ⟨by omega, rfl, fun t t1 t2 => by omega, fun t _ _ => ⟨rfl, rfl, rfl, rfl, rfl, rfl, rfl⟩, rfl, by omega, fun i hi => by omega, List.Pairwise.nil, fun t => ⟨(fun h => by cases h), fun h => by omega⟩, Or.inl rfl, fun t t1 t2 => by omega⟩,
    ⟨rfl, by omega, rfl, fun e he => by omega, fun t t1 t2 => by omega, fun ρ hρ => by omega, fun t t1 t2 => by omega⟩,
    ⟨rfl, rfl, by omega, fun k _ => Or.inl rfl, (fun x hx => by cases hx), (fun x hx => by cases hx), List.nodup_nil, fun t t1 t2 => by omega, (fun x hx => by cases hx), List.Pairwise.nil, fun t t1 t2 => by omega, ⟨(fun x hx => by cases hx), fun _ => [], fun t t1 t2 => by omega⟩, fun t t1 t2 => by omega⟩,
    fun o ho => by omega, ⟨rfl, rfl, rfl, ⟨0, by omega, rfl⟩, ⟨0, by omega, rfl⟩, ⟨200, by omega, by omega, rfl⟩, fun k _ => Or.inl rfl, ⟨0, by omega, rfl⟩, ⟨0, by omega, rfl⟩, ⟨0, by omega, rfl⟩⟩, ⟨by omega, Nat.le_refl _, by omega, Nat.le_refl _, Nat.le_refl _, Nat.le_refl _, rfl⟩, fun t t1 t2 => by omega⟩
theorem s1_if {n : Nat} {F : Nat → Int32} : (k_set1 P n F).1 f a = if a = n then F f else P.1 f a := rfl
theorem hp_v : (k_HP p_00 own).1 f a = if a = own then (if f = 251 then 200 else 0) else if a = own + 17 then (if f = 83 then 1 else 0) else if a = own + 19 then (if f = 126 then -9 else 0) else 0 := by
  unfold k_HP k_nQ k_nG k_nS k_nR
  by_cases c0 : a = own
  · rw [s1_if, if_pos c0, if_pos c0]
  rw [s1_if, if_neg c0, if_neg c0]
  by_cases c25 : a = own + 25
  · rw [s1_if, if_pos c25, if_neg (by omega), if_neg (by omega)]
  rw [s1_if, if_neg c25]
  by_cases c19 : a = own + 19
  · rw [s1_if, if_pos c19, if_neg (show ¬ a = own + 17 by omega), if_pos c19]
  rw [s1_if, if_neg c19, k_a1, k_a1, k_a1, k_a1, k_a1]
  by_cases c17 : a = own + 17
  · rw [s1_if, if_pos c17, if_pos c17]
  rw [s1_if, if_neg c17, if_neg c17, if_neg c19]
  have z : ∀ (Q : k_P) (n : Nat), Q.1 f a = 0 → (k_set1 (k_set1 (k_wa Q (n + 2 + 1) (fun _ => 0)) (n + 2) (fun _ => 0)) n (fun _ => 0)).1 f a = 0 := fun Q n h => by
    rw [s1_if]
    split
    · rfl
    · rw [s1_if]
      split
      · rfl
      · exact h
  exact z _ _ (z _ _ (z _ _ rfl))
theorem first_K : K_all (h_N own) own 0 0 0 0 0 0 0 (fun _ => []) 0 (k_HZ z_00 own) (k_HP p_00 own) (k_HU u_00 own) (own + 98, r.2) S_0 := by
  have T : ∀ k, k ≤ 25 → (k_HZ z_00 own).1 (own + k) = hT k := hz_t
  refine ⟨first_E, ⟨by rw [hu_2]; rfl, by rw [hu_2]; exact List.nodup_nil, (fun i x h => by rw [hu_2] at h; cases h), fun t t1 t2 => by omega, fun t t1 t2 => by omega⟩, ⟨⟨T 1 (by omega), ?_, by omega, fun o ho => by omega⟩, fun o ho => by omega⟩, ⟨⟨T 5 (by omega), ?_, by omega, fun o ho => by omega⟩, fun o ho => by omega⟩, ⟨by rw [hu_2]; rfl, by rw [hu_2]; exact List.nodup_nil, fun t t1 t2 => by omega, fun t t1 t2 => by omega, fun t t1 t2 => by omega, by rw [hu_2]; rfl, (fun i t h => by cases h)⟩, ?_, fun t t1 t2 => by omega, ⟨fun o ho => by omega, fun o ho => by omega, fun o ho => by omega, fun o ho => by omega, fun o ho => by omega, fun t t1 t2 => by omega⟩, fun o ho => by omega, ?_⟩
  · rw [hp_v, if_neg (by omega), if_neg (by omega), if_neg (by omega)]; rfl
  · rw [hp_v, if_neg (by omega), if_neg (by omega), if_neg (by omega)]; rfl
  · unfold K_en; rw [hu_2]; rfl
  · refine mi_iff.mpr ⟨fun p hp => ?_, ?_, fun i i1 i2 => ?_, fun i i1 i2 => ?_⟩
    · have key : ∀ p ∈ mis, (if p.2.1 = 0 then (if p.1 = 251 then (200 : Int32) else 0) else if p.2.1 = 17 then (if p.1 = 83 then 1 else 0) else if p.2.1 = 19 then (if p.1 = 126 then -9 else 0) else 0) = S_0.1 p.2.2 := by decide
      rw [hp_v, ← key p hp]
      by_cases d0 : p.2.1 = 0
      · rw [if_pos (by omega), if_pos d0]
      rw [if_neg (by omega), if_neg d0]
      by_cases d1 : p.2.1 = 17
      · rw [if_pos (by omega), if_pos d1]
      rw [if_neg (by omega), if_neg d1]
      by_cases d2 : p.2.1 = 19
      · rw [if_pos (by omega), if_pos d2]
      rw [if_neg (by omega), if_neg d2]
    · rw [hp_v, if_neg (by omega), if_neg (by omega), if_pos rfl, if_pos rfl]; rfl
    · exact absurd i1 (Int32.not_lt.mpr (nI_pos' (by omega)))
    · exact absurd i1 (Int32.not_lt.mpr (nI_pos' (by omega)))
/-- both are made -/
theorem first_V {s : Nat} : V own 0 (own + 98, s) (k_HZ z_00 own) (k_HP p_00 own) (k_HU u_00 own) (own + 98, s) S_0 :=
  ⟨h_N own, 0, 0, 0, 0, 0, 0, 0, 0, fun _ => [], 0, first_I, first_K (r := (own + 98, s)), ⟨by omega, by omega⟩⟩
end WB
