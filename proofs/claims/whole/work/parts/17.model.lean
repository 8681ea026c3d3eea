/-! the reference: its ints F (by the number of the field), its arrays A; laid into a heap at M -/
def m_J : List (Nat × Nat × Nat) := [(4, 0, 40), (5, 0, 40), (6, 0, 40), (7, 0, 40), (9, 0, 128), (10, 0, 128), (11, 0, 128), (12, 0, 1024), (17, 0, 6000), (18, 0, 6000), (19, 0, 6000), (20, 0, 6000), (21, 0, 6000), (22, 0, 6000), (23, 0, 6000), (24, 0, 6000), (31, 0, 16), (34, 0, 700), (35, 0, 700), (36, 0, 700), (37, 0, 700), (38, 0, 700), (39, 0, 700), (40, 0, 700), (41, 1, 700), (42, 0, 700), (43, 0, 700), (46, 0, 13), (47, 0, 401), (48, 0, 401), (49, 0, 401), (50, 0, 401), (51, 0, 401), (52, 0, 401), (53, 0, 401), (54, 0, 2005), (55, 0, 401), (56, 0, 401), (57, 0, 401), (58, 0, 401), (59, 0, 401), (61, 0, 401), (67, 0, 401), (68, 0, 401), (69, 0, 401), (70, 0, 401), (71, 0, 401), (73, 0, 6000), (74, 0, 6000), (75, 0, 6000), (76, 0, 6000), (77, 0, 6000), (78, 0, 6000), (79, 1, 6000), (81, 0, 13), (82, 0, 13), (83, 0, 13), (84, 0, 13), (85, 0, 13), (86, 1, 13), (88, 0, 24), (89, 0, 24), (90, 0, 24), (91, 0, 24), (95, 0, 12), (96, 0, 401), (97, 0, 40), (98, 0, 16040), (99, 0, 16040), (100, 0, 700), (101, 1, 40)]
def m_K : List (Option Nat) := [none, none, none, none, some 0, some 1, some 2, some 3, none, some 4, some 5, some 6, some 7, none, none, none, none, some 8, some 9, some 10, some 11, some 12, some 13, some 14, some 15, none, none, none, none, none, none, some 16, none, none, some 17, some 18, some 19, some 20, some 21, some 22, some 23, some 24, some 25, some 26, none, none, some 27, some 28, some 29, some 30, some 31, some 32, some 33, some 34, some 35, some 36, some 37, some 38, some 39, some 40, none, some 41, none, none, none, none, none, some 42, some 43, some 44, some 45, some 46, none, some 47, some 48, some 49, some 50, some 51, some 52, some 53, none, some 54, some 55, some 56, some 57, some 58, some 59, none, some 60, some 61, some 62, some 63, none, none, none, some 64, some 65, some 66, some 67, some 68, some 69, some 70]
def m_V (M : Nat) (F : Nat → Int32) (k : Nat) : Value := match m_K.getD k none with
  | some j => .ref (M + 1 + j)
  | none => .int (F k)
def m_H (M : Nat) (F : Nat → Int32) (A : Nat → Nat → Int32) (h : e_Hp) : e_Hp := (fun a => if a < M then h.1 a else if a = M then some (e_O 13 (m_V M F)) else match m_J[a - M - 1]? with
  | some x => some (e_I x.2.1 x.2.2 (A x.1))
  | none => h.1 a, h.2)
section MS
variable {M : Nat} {F : Nat → Int32} {A : Nat → Nat → Int32} {h : e_Hp}
theorem m_at : (m_H M F A h).1 M = some (e_O 13 (m_V M F)) := by simp [m_H]
theorem m_atA {j : Nat} {x : Nat × Nat × Nat} (hj : m_J[j]? = some x) : (m_H M F A h).1 (M + 1 + j) = some (e_I x.2.1 x.2.2 (A x.1)) := by
  have h1 : ¬ M + 1 + j < M := by omega
  have h2 : ¬ M + 1 + j = M := by omega
  have h3 : M + 1 + j - M - 1 = j := by omega
  simp only [m_H, if_neg h1, if_neg h2, h3, hj]
theorem m_gO {kk : (Nat → Value) → Prop} : e_gO (m_H M F A h) M 13 kk = kk (m_V M F) := by
  unfold e_gO
  rw [m_at]
  exact propext ⟨fun q => q.2, fun q => ⟨rfl, q⟩⟩
theorem m_gI {j : Nat} {x : Nat × Nat × Nat} (hj : m_J[j]? = some x) {kk : Nat → (Nat → Int32) → Prop} : e_gI (m_H M F A h) (M + 1 + j) x.2.1 kk = kk x.2.2 (A x.1) := by
  unfold e_gI
  rw [m_atA hj]
  exact propext ⟨fun q => q.2, fun q => ⟨rfl, q⟩⟩
theorem m_isC : e_isC (m_H M F A h) M 13 = True := by
  unfold e_isC
  rw [m_at]
  exact eq_true rfl
theorem m_Vup {k : Nat} (hk : m_K.getD k none = none) (x : Int32) : va_up (m_V M F) k (.int x) = m_V M (va_up F k x) := by
  funext j
  by_cases hj : j = k
  · subst hj
    simp only [va_up, if_pos, m_V, hk]
  · simp only [va_up, if_neg hj, m_V]
theorem m_wO {k : Nat} (hk : m_K.getD k none = none) {x : Int32} : e_wr (m_H M F A h) M (e_O 13 (va_up (m_V M F) k (.int x))) = m_H M (va_up F k x) A h := by
  rw [m_Vup hk]
  unfold e_wr m_H
  refine Prod.ext (funext fun a => ?_) rfl
  by_cases ha : a = M
  · subst ha
    simp [va_up]
  · simp only [va_up, if_neg ha]
theorem m_Jk : ∀ (i j : Nat) (x y : Nat × Nat × Nat), m_J[i]? = some x → m_J[j]? = some y → x.1 = y.1 → i = j := by
  have hl : m_J.length = 71 := by decide +kernel
  have hx : va_nd (m_J.map (fun x => x.1)) = true := by decide +kernel
  intro i j x y hi hj e
  have h1 : (m_J.map (fun x => x.1))[i]? = some x.1 := by rw [List.getElem?_map, hi]; rfl
  have h2 : (m_J.map (fun x => x.1))[j]? = some y.1 := by rw [List.getElem?_map, hj]; rfl
  rw [← e] at h2
  exact va_nd_inj _ hx i j _ h1 h2
theorem m_wA {j : Nat} {x : Nat × Nat × Nat} (hj : m_J[j]? = some x) {f : Nat → Int32} : e_wr (m_H M F A h) (M + 1 + j) (e_I x.2.1 x.2.2 f) = m_H M F (va_up A x.1 f) h := by
  unfold e_wr m_H
  refine Prod.ext (funext fun a => ?_) rfl
  by_cases ha : a = M + 1 + j
  · subst ha
    have h1 : ¬ M + 1 + j < M := by omega
    have h2 : ¬ M + 1 + j = M := by omega
    have h3 : M + 1 + j - M - 1 = j := by omega
    simp only [va_up, if_neg h1, if_neg h2, h3, hj, if_pos]
  · simp only [va_up, if_neg ha]
    by_cases h1 : a < M
    · simp only [if_pos h1]
    · by_cases h2 : a = M
      · simp only [if_neg h1, if_pos h2]
      · simp only [if_neg h1, if_neg h2]
        cases hy : m_J[a - M - 1]? with
        | none => rfl
        | some y =>
          have hne : ¬ y.1 = x.1 := fun z => by
            have := m_Jk _ _ _ _ hy hj z
            omega
          simp only [if_neg hne]
theorem mv0 : m_V M F 0 = .int (F 0) := id rfl
theorem mv1 : m_V M F 1 = .int (F 1) := id rfl
theorem mv2 : m_V M F 2 = .int (F 2) := id rfl
theorem mv3 : m_V M F 3 = .int (F 3) := id rfl
theorem mv4 : m_V M F 4 = .ref (M + 1 + 0) := id rfl
theorem mv5 : m_V M F 5 = .ref (M + 1 + 1) := id rfl
theorem mv6 : m_V M F 6 = .ref (M + 1 + 2) := id rfl
theorem mv7 : m_V M F 7 = .ref (M + 1 + 3) := id rfl
theorem mv8 : m_V M F 8 = .int (F 8) := id rfl
theorem mv9 : m_V M F 9 = .ref (M + 1 + 4) := id rfl
theorem mv10 : m_V M F 10 = .ref (M + 1 + 5) := id rfl
theorem mv11 : m_V M F 11 = .ref (M + 1 + 6) := id rfl
theorem mv12 : m_V M F 12 = .ref (M + 1 + 7) := id rfl
theorem mv13 : m_V M F 13 = .int (F 13) := id rfl
theorem mv14 : m_V M F 14 = .int (F 14) := id rfl
theorem mv15 : m_V M F 15 = .int (F 15) := id rfl
theorem mv16 : m_V M F 16 = .int (F 16) := id rfl
theorem mv17 : m_V M F 17 = .ref (M + 1 + 8) := id rfl
theorem mv18 : m_V M F 18 = .ref (M + 1 + 9) := id rfl
theorem mv19 : m_V M F 19 = .ref (M + 1 + 10) := id rfl
theorem mv20 : m_V M F 20 = .ref (M + 1 + 11) := id rfl
theorem mv21 : m_V M F 21 = .ref (M + 1 + 12) := id rfl
theorem mv22 : m_V M F 22 = .ref (M + 1 + 13) := id rfl
theorem mv23 : m_V M F 23 = .ref (M + 1 + 14) := id rfl
theorem mv24 : m_V M F 24 = .ref (M + 1 + 15) := id rfl
theorem mv25 : m_V M F 25 = .int (F 25) := id rfl
theorem mv26 : m_V M F 26 = .int (F 26) := id rfl
theorem mv27 : m_V M F 27 = .int (F 27) := id rfl
theorem mv28 : m_V M F 28 = .int (F 28) := id rfl
theorem mv29 : m_V M F 29 = .int (F 29) := id rfl
theorem mv30 : m_V M F 30 = .int (F 30) := id rfl
theorem mv31 : m_V M F 31 = .ref (M + 1 + 16) := id rfl
theorem mv32 : m_V M F 32 = .int (F 32) := id rfl
theorem mv33 : m_V M F 33 = .int (F 33) := id rfl
theorem mv34 : m_V M F 34 = .ref (M + 1 + 17) := id rfl
theorem mv35 : m_V M F 35 = .ref (M + 1 + 18) := id rfl
theorem mv36 : m_V M F 36 = .ref (M + 1 + 19) := id rfl
theorem mv37 : m_V M F 37 = .ref (M + 1 + 20) := id rfl
theorem mv38 : m_V M F 38 = .ref (M + 1 + 21) := id rfl
theorem mv39 : m_V M F 39 = .ref (M + 1 + 22) := id rfl
theorem mv40 : m_V M F 40 = .ref (M + 1 + 23) := id rfl
theorem mv41 : m_V M F 41 = .ref (M + 1 + 24) := id rfl
theorem mv42 : m_V M F 42 = .ref (M + 1 + 25) := id rfl
theorem mv43 : m_V M F 43 = .ref (M + 1 + 26) := id rfl
theorem mv44 : m_V M F 44 = .int (F 44) := id rfl
theorem mv45 : m_V M F 45 = .int (F 45) := id rfl
theorem mv46 : m_V M F 46 = .ref (M + 1 + 27) := id rfl
theorem mv47 : m_V M F 47 = .ref (M + 1 + 28) := id rfl
theorem mv48 : m_V M F 48 = .ref (M + 1 + 29) := id rfl
theorem mv49 : m_V M F 49 = .ref (M + 1 + 30) := id rfl
theorem mv50 : m_V M F 50 = .ref (M + 1 + 31) := id rfl
theorem mv51 : m_V M F 51 = .ref (M + 1 + 32) := id rfl
theorem mv52 : m_V M F 52 = .ref (M + 1 + 33) := id rfl
theorem mv53 : m_V M F 53 = .ref (M + 1 + 34) := id rfl
theorem mv54 : m_V M F 54 = .ref (M + 1 + 35) := id rfl
theorem mv55 : m_V M F 55 = .ref (M + 1 + 36) := id rfl
theorem mv56 : m_V M F 56 = .ref (M + 1 + 37) := id rfl
theorem mv57 : m_V M F 57 = .ref (M + 1 + 38) := id rfl
theorem mv58 : m_V M F 58 = .ref (M + 1 + 39) := id rfl
theorem mv59 : m_V M F 59 = .ref (M + 1 + 40) := id rfl
theorem mv60 : m_V M F 60 = .int (F 60) := id rfl
theorem mv61 : m_V M F 61 = .ref (M + 1 + 41) := id rfl
theorem mv62 : m_V M F 62 = .int (F 62) := id rfl
theorem mv63 : m_V M F 63 = .int (F 63) := id rfl
theorem mv64 : m_V M F 64 = .int (F 64) := id rfl
theorem mv65 : m_V M F 65 = .int (F 65) := id rfl
theorem mv66 : m_V M F 66 = .int (F 66) := id rfl
theorem mv67 : m_V M F 67 = .ref (M + 1 + 42) := id rfl
theorem mv68 : m_V M F 68 = .ref (M + 1 + 43) := id rfl
theorem mv69 : m_V M F 69 = .ref (M + 1 + 44) := id rfl
theorem mv70 : m_V M F 70 = .ref (M + 1 + 45) := id rfl
theorem mv71 : m_V M F 71 = .ref (M + 1 + 46) := id rfl
theorem mv72 : m_V M F 72 = .int (F 72) := id rfl
theorem mv73 : m_V M F 73 = .ref (M + 1 + 47) := id rfl
theorem mv74 : m_V M F 74 = .ref (M + 1 + 48) := id rfl
theorem mv75 : m_V M F 75 = .ref (M + 1 + 49) := id rfl
theorem mv76 : m_V M F 76 = .ref (M + 1 + 50) := id rfl
theorem mv77 : m_V M F 77 = .ref (M + 1 + 51) := id rfl
theorem mv78 : m_V M F 78 = .ref (M + 1 + 52) := id rfl
theorem mv79 : m_V M F 79 = .ref (M + 1 + 53) := id rfl
theorem mv80 : m_V M F 80 = .int (F 80) := id rfl
theorem mv81 : m_V M F 81 = .ref (M + 1 + 54) := id rfl
theorem mv82 : m_V M F 82 = .ref (M + 1 + 55) := id rfl
theorem mv83 : m_V M F 83 = .ref (M + 1 + 56) := id rfl
theorem mv84 : m_V M F 84 = .ref (M + 1 + 57) := id rfl
theorem mv85 : m_V M F 85 = .ref (M + 1 + 58) := id rfl
theorem mv86 : m_V M F 86 = .ref (M + 1 + 59) := id rfl
theorem mv87 : m_V M F 87 = .int (F 87) := id rfl
theorem mv88 : m_V M F 88 = .ref (M + 1 + 60) := id rfl
theorem mv89 : m_V M F 89 = .ref (M + 1 + 61) := id rfl
theorem mv90 : m_V M F 90 = .ref (M + 1 + 62) := id rfl
theorem mv91 : m_V M F 91 = .ref (M + 1 + 63) := id rfl
theorem mv92 : m_V M F 92 = .int (F 92) := id rfl
theorem mv93 : m_V M F 93 = .int (F 93) := id rfl
theorem mv94 : m_V M F 94 = .int (F 94) := id rfl
theorem mv95 : m_V M F 95 = .ref (M + 1 + 64) := id rfl
theorem mv96 : m_V M F 96 = .ref (M + 1 + 65) := id rfl
theorem mv97 : m_V M F 97 = .ref (M + 1 + 66) := id rfl
theorem mv98 : m_V M F 98 = .ref (M + 1 + 67) := id rfl
theorem mv99 : m_V M F 99 = .ref (M + 1 + 68) := id rfl
theorem mv100 : m_V M F 100 = .ref (M + 1 + 69) := id rfl
theorem mv101 : m_V M F 101 = .ref (M + 1 + 70) := id rfl
theorem mw0 {x : Int32} : e_wr (m_H M F A h) M (e_O 13 (va_up (m_V M F) 0 (.int x))) = m_H M (va_up F 0 x) A h := m_wO rfl
theorem mw1 {x : Int32} : e_wr (m_H M F A h) M (e_O 13 (va_up (m_V M F) 1 (.int x))) = m_H M (va_up F 1 x) A h := m_wO rfl
theorem mw2 {x : Int32} : e_wr (m_H M F A h) M (e_O 13 (va_up (m_V M F) 2 (.int x))) = m_H M (va_up F 2 x) A h := m_wO rfl
theorem mw3 {x : Int32} : e_wr (m_H M F A h) M (e_O 13 (va_up (m_V M F) 3 (.int x))) = m_H M (va_up F 3 x) A h := m_wO rfl
theorem mr4 {kk : Nat → (Nat → Int32) → Prop} : e_gI (m_H M F A h) (M + 1 + 0) 0 kk = kk 40 (A 4) := m_gI (x := (4, 0, 40)) rfl
theorem mw4 {f : Nat → Int32} : e_wr (m_H M F A h) (M + 1 + 0) (e_I 0 40 f) = m_H M F (va_up A 4 f) h := m_wA (x := (4, 0, 40)) rfl
theorem mr5 {kk : Nat → (Nat → Int32) → Prop} : e_gI (m_H M F A h) (M + 1 + 1) 0 kk = kk 40 (A 5) := m_gI (x := (5, 0, 40)) rfl
theorem mw5 {f : Nat → Int32} : e_wr (m_H M F A h) (M + 1 + 1) (e_I 0 40 f) = m_H M F (va_up A 5 f) h := m_wA (x := (5, 0, 40)) rfl
theorem mr6 {kk : Nat → (Nat → Int32) → Prop} : e_gI (m_H M F A h) (M + 1 + 2) 0 kk = kk 40 (A 6) := m_gI (x := (6, 0, 40)) rfl
theorem mw6 {f : Nat → Int32} : e_wr (m_H M F A h) (M + 1 + 2) (e_I 0 40 f) = m_H M F (va_up A 6 f) h := m_wA (x := (6, 0, 40)) rfl
theorem mr7 {kk : Nat → (Nat → Int32) → Prop} : e_gI (m_H M F A h) (M + 1 + 3) 0 kk = kk 40 (A 7) := m_gI (x := (7, 0, 40)) rfl
theorem mw7 {f : Nat → Int32} : e_wr (m_H M F A h) (M + 1 + 3) (e_I 0 40 f) = m_H M F (va_up A 7 f) h := m_wA (x := (7, 0, 40)) rfl
theorem mw8 {x : Int32} : e_wr (m_H M F A h) M (e_O 13 (va_up (m_V M F) 8 (.int x))) = m_H M (va_up F 8 x) A h := m_wO rfl
theorem mr9 {kk : Nat → (Nat → Int32) → Prop} : e_gI (m_H M F A h) (M + 1 + 4) 0 kk = kk 128 (A 9) := m_gI (x := (9, 0, 128)) rfl
theorem mw9 {f : Nat → Int32} : e_wr (m_H M F A h) (M + 1 + 4) (e_I 0 128 f) = m_H M F (va_up A 9 f) h := m_wA (x := (9, 0, 128)) rfl
theorem mr10 {kk : Nat → (Nat → Int32) → Prop} : e_gI (m_H M F A h) (M + 1 + 5) 0 kk = kk 128 (A 10) := m_gI (x := (10, 0, 128)) rfl
theorem mw10 {f : Nat → Int32} : e_wr (m_H M F A h) (M + 1 + 5) (e_I 0 128 f) = m_H M F (va_up A 10 f) h := m_wA (x := (10, 0, 128)) rfl
theorem mr11 {kk : Nat → (Nat → Int32) → Prop} : e_gI (m_H M F A h) (M + 1 + 6) 0 kk = kk 128 (A 11) := m_gI (x := (11, 0, 128)) rfl
theorem mw11 {f : Nat → Int32} : e_wr (m_H M F A h) (M + 1 + 6) (e_I 0 128 f) = m_H M F (va_up A 11 f) h := m_wA (x := (11, 0, 128)) rfl
theorem mr12 {kk : Nat → (Nat → Int32) → Prop} : e_gI (m_H M F A h) (M + 1 + 7) 0 kk = kk 1024 (A 12) := m_gI (x := (12, 0, 1024)) rfl
theorem mw12 {f : Nat → Int32} : e_wr (m_H M F A h) (M + 1 + 7) (e_I 0 1024 f) = m_H M F (va_up A 12 f) h := m_wA (x := (12, 0, 1024)) rfl
theorem mw13 {x : Int32} : e_wr (m_H M F A h) M (e_O 13 (va_up (m_V M F) 13 (.int x))) = m_H M (va_up F 13 x) A h := m_wO rfl
theorem mw14 {x : Int32} : e_wr (m_H M F A h) M (e_O 13 (va_up (m_V M F) 14 (.int x))) = m_H M (va_up F 14 x) A h := m_wO rfl
theorem mw15 {x : Int32} : e_wr (m_H M F A h) M (e_O 13 (va_up (m_V M F) 15 (.int x))) = m_H M (va_up F 15 x) A h := m_wO rfl
theorem mw16 {x : Int32} : e_wr (m_H M F A h) M (e_O 13 (va_up (m_V M F) 16 (.int x))) = m_H M (va_up F 16 x) A h := m_wO rfl
theorem mr17 {kk : Nat → (Nat → Int32) → Prop} : e_gI (m_H M F A h) (M + 1 + 8) 0 kk = kk 6000 (A 17) := m_gI (x := (17, 0, 6000)) rfl
theorem mw17 {f : Nat → Int32} : e_wr (m_H M F A h) (M + 1 + 8) (e_I 0 6000 f) = m_H M F (va_up A 17 f) h := m_wA (x := (17, 0, 6000)) rfl
theorem mr18 {kk : Nat → (Nat → Int32) → Prop} : e_gI (m_H M F A h) (M + 1 + 9) 0 kk = kk 6000 (A 18) := m_gI (x := (18, 0, 6000)) rfl
theorem mw18 {f : Nat → Int32} : e_wr (m_H M F A h) (M + 1 + 9) (e_I 0 6000 f) = m_H M F (va_up A 18 f) h := m_wA (x := (18, 0, 6000)) rfl
theorem mr19 {kk : Nat → (Nat → Int32) → Prop} : e_gI (m_H M F A h) (M + 1 + 10) 0 kk = kk 6000 (A 19) := m_gI (x := (19, 0, 6000)) rfl
theorem mw19 {f : Nat → Int32} : e_wr (m_H M F A h) (M + 1 + 10) (e_I 0 6000 f) = m_H M F (va_up A 19 f) h := m_wA (x := (19, 0, 6000)) rfl
theorem mr20 {kk : Nat → (Nat → Int32) → Prop} : e_gI (m_H M F A h) (M + 1 + 11) 0 kk = kk 6000 (A 20) := m_gI (x := (20, 0, 6000)) rfl
theorem mw20 {f : Nat → Int32} : e_wr (m_H M F A h) (M + 1 + 11) (e_I 0 6000 f) = m_H M F (va_up A 20 f) h := m_wA (x := (20, 0, 6000)) rfl
theorem mr21 {kk : Nat → (Nat → Int32) → Prop} : e_gI (m_H M F A h) (M + 1 + 12) 0 kk = kk 6000 (A 21) := m_gI (x := (21, 0, 6000)) rfl
theorem mw21 {f : Nat → Int32} : e_wr (m_H M F A h) (M + 1 + 12) (e_I 0 6000 f) = m_H M F (va_up A 21 f) h := m_wA (x := (21, 0, 6000)) rfl
theorem mr22 {kk : Nat → (Nat → Int32) → Prop} : e_gI (m_H M F A h) (M + 1 + 13) 0 kk = kk 6000 (A 22) := m_gI (x := (22, 0, 6000)) rfl
theorem mw22 {f : Nat → Int32} : e_wr (m_H M F A h) (M + 1 + 13) (e_I 0 6000 f) = m_H M F (va_up A 22 f) h := m_wA (x := (22, 0, 6000)) rfl
theorem mr23 {kk : Nat → (Nat → Int32) → Prop} : e_gI (m_H M F A h) (M + 1 + 14) 0 kk = kk 6000 (A 23) := m_gI (x := (23, 0, 6000)) rfl
theorem mw23 {f : Nat → Int32} : e_wr (m_H M F A h) (M + 1 + 14) (e_I 0 6000 f) = m_H M F (va_up A 23 f) h := m_wA (x := (23, 0, 6000)) rfl
theorem mr24 {kk : Nat → (Nat → Int32) → Prop} : e_gI (m_H M F A h) (M + 1 + 15) 0 kk = kk 6000 (A 24) := m_gI (x := (24, 0, 6000)) rfl
theorem mw24 {f : Nat → Int32} : e_wr (m_H M F A h) (M + 1 + 15) (e_I 0 6000 f) = m_H M F (va_up A 24 f) h := m_wA (x := (24, 0, 6000)) rfl
theorem mw25 {x : Int32} : e_wr (m_H M F A h) M (e_O 13 (va_up (m_V M F) 25 (.int x))) = m_H M (va_up F 25 x) A h := m_wO rfl
theorem mw26 {x : Int32} : e_wr (m_H M F A h) M (e_O 13 (va_up (m_V M F) 26 (.int x))) = m_H M (va_up F 26 x) A h := m_wO rfl
theorem mw27 {x : Int32} : e_wr (m_H M F A h) M (e_O 13 (va_up (m_V M F) 27 (.int x))) = m_H M (va_up F 27 x) A h := m_wO rfl
theorem mw28 {x : Int32} : e_wr (m_H M F A h) M (e_O 13 (va_up (m_V M F) 28 (.int x))) = m_H M (va_up F 28 x) A h := m_wO rfl
theorem mw29 {x : Int32} : e_wr (m_H M F A h) M (e_O 13 (va_up (m_V M F) 29 (.int x))) = m_H M (va_up F 29 x) A h := m_wO rfl
theorem mw30 {x : Int32} : e_wr (m_H M F A h) M (e_O 13 (va_up (m_V M F) 30 (.int x))) = m_H M (va_up F 30 x) A h := m_wO rfl
theorem mr31 {kk : Nat → (Nat → Int32) → Prop} : e_gI (m_H M F A h) (M + 1 + 16) 0 kk = kk 16 (A 31) := m_gI (x := (31, 0, 16)) rfl
theorem mw31 {f : Nat → Int32} : e_wr (m_H M F A h) (M + 1 + 16) (e_I 0 16 f) = m_H M F (va_up A 31 f) h := m_wA (x := (31, 0, 16)) rfl
theorem mw32 {x : Int32} : e_wr (m_H M F A h) M (e_O 13 (va_up (m_V M F) 32 (.int x))) = m_H M (va_up F 32 x) A h := m_wO rfl
theorem mw33 {x : Int32} : e_wr (m_H M F A h) M (e_O 13 (va_up (m_V M F) 33 (.int x))) = m_H M (va_up F 33 x) A h := m_wO rfl
theorem mr34 {kk : Nat → (Nat → Int32) → Prop} : e_gI (m_H M F A h) (M + 1 + 17) 0 kk = kk 700 (A 34) := m_gI (x := (34, 0, 700)) rfl
theorem mw34 {f : Nat → Int32} : e_wr (m_H M F A h) (M + 1 + 17) (e_I 0 700 f) = m_H M F (va_up A 34 f) h := m_wA (x := (34, 0, 700)) rfl
theorem mr35 {kk : Nat → (Nat → Int32) → Prop} : e_gI (m_H M F A h) (M + 1 + 18) 0 kk = kk 700 (A 35) := m_gI (x := (35, 0, 700)) rfl
theorem mw35 {f : Nat → Int32} : e_wr (m_H M F A h) (M + 1 + 18) (e_I 0 700 f) = m_H M F (va_up A 35 f) h := m_wA (x := (35, 0, 700)) rfl
theorem mr36 {kk : Nat → (Nat → Int32) → Prop} : e_gI (m_H M F A h) (M + 1 + 19) 0 kk = kk 700 (A 36) := m_gI (x := (36, 0, 700)) rfl
theorem mw36 {f : Nat → Int32} : e_wr (m_H M F A h) (M + 1 + 19) (e_I 0 700 f) = m_H M F (va_up A 36 f) h := m_wA (x := (36, 0, 700)) rfl
theorem mr37 {kk : Nat → (Nat → Int32) → Prop} : e_gI (m_H M F A h) (M + 1 + 20) 0 kk = kk 700 (A 37) := m_gI (x := (37, 0, 700)) rfl
theorem mw37 {f : Nat → Int32} : e_wr (m_H M F A h) (M + 1 + 20) (e_I 0 700 f) = m_H M F (va_up A 37 f) h := m_wA (x := (37, 0, 700)) rfl
theorem mr38 {kk : Nat → (Nat → Int32) → Prop} : e_gI (m_H M F A h) (M + 1 + 21) 0 kk = kk 700 (A 38) := m_gI (x := (38, 0, 700)) rfl
theorem mw38 {f : Nat → Int32} : e_wr (m_H M F A h) (M + 1 + 21) (e_I 0 700 f) = m_H M F (va_up A 38 f) h := m_wA (x := (38, 0, 700)) rfl
theorem mr39 {kk : Nat → (Nat → Int32) → Prop} : e_gI (m_H M F A h) (M + 1 + 22) 0 kk = kk 700 (A 39) := m_gI (x := (39, 0, 700)) rfl
theorem mw39 {f : Nat → Int32} : e_wr (m_H M F A h) (M + 1 + 22) (e_I 0 700 f) = m_H M F (va_up A 39 f) h := m_wA (x := (39, 0, 700)) rfl
theorem mr40 {kk : Nat → (Nat → Int32) → Prop} : e_gI (m_H M F A h) (M + 1 + 23) 0 kk = kk 700 (A 40) := m_gI (x := (40, 0, 700)) rfl
theorem mw40 {f : Nat → Int32} : e_wr (m_H M F A h) (M + 1 + 23) (e_I 0 700 f) = m_H M F (va_up A 40 f) h := m_wA (x := (40, 0, 700)) rfl
theorem mr41 {kk : Nat → (Nat → Int32) → Prop} : e_gI (m_H M F A h) (M + 1 + 24) 1 kk = kk 700 (A 41) := m_gI (x := (41, 1, 700)) rfl
theorem mw41 {f : Nat → Int32} : e_wr (m_H M F A h) (M + 1 + 24) (e_I 1 700 f) = m_H M F (va_up A 41 f) h := m_wA (x := (41, 1, 700)) rfl
theorem mr42 {kk : Nat → (Nat → Int32) → Prop} : e_gI (m_H M F A h) (M + 1 + 25) 0 kk = kk 700 (A 42) := m_gI (x := (42, 0, 700)) rfl
theorem mw42 {f : Nat → Int32} : e_wr (m_H M F A h) (M + 1 + 25) (e_I 0 700 f) = m_H M F (va_up A 42 f) h := m_wA (x := (42, 0, 700)) rfl
theorem mr43 {kk : Nat → (Nat → Int32) → Prop} : e_gI (m_H M F A h) (M + 1 + 26) 0 kk = kk 700 (A 43) := m_gI (x := (43, 0, 700)) rfl
theorem mw43 {f : Nat → Int32} : e_wr (m_H M F A h) (M + 1 + 26) (e_I 0 700 f) = m_H M F (va_up A 43 f) h := m_wA (x := (43, 0, 700)) rfl
theorem mw44 {x : Int32} : e_wr (m_H M F A h) M (e_O 13 (va_up (m_V M F) 44 (.int x))) = m_H M (va_up F 44 x) A h := m_wO rfl
theorem mw45 {x : Int32} : e_wr (m_H M F A h) M (e_O 13 (va_up (m_V M F) 45 (.int x))) = m_H M (va_up F 45 x) A h := m_wO rfl
theorem mr46 {kk : Nat → (Nat → Int32) → Prop} : e_gI (m_H M F A h) (M + 1 + 27) 0 kk = kk 13 (A 46) := m_gI (x := (46, 0, 13)) rfl
theorem mw46 {f : Nat → Int32} : e_wr (m_H M F A h) (M + 1 + 27) (e_I 0 13 f) = m_H M F (va_up A 46 f) h := m_wA (x := (46, 0, 13)) rfl
theorem mr47 {kk : Nat → (Nat → Int32) → Prop} : e_gI (m_H M F A h) (M + 1 + 28) 0 kk = kk 401 (A 47) := m_gI (x := (47, 0, 401)) rfl
theorem mw47 {f : Nat → Int32} : e_wr (m_H M F A h) (M + 1 + 28) (e_I 0 401 f) = m_H M F (va_up A 47 f) h := m_wA (x := (47, 0, 401)) rfl
theorem mr48 {kk : Nat → (Nat → Int32) → Prop} : e_gI (m_H M F A h) (M + 1 + 29) 0 kk = kk 401 (A 48) := m_gI (x := (48, 0, 401)) rfl
theorem mw48 {f : Nat → Int32} : e_wr (m_H M F A h) (M + 1 + 29) (e_I 0 401 f) = m_H M F (va_up A 48 f) h := m_wA (x := (48, 0, 401)) rfl
theorem mr49 {kk : Nat → (Nat → Int32) → Prop} : e_gI (m_H M F A h) (M + 1 + 30) 0 kk = kk 401 (A 49) := m_gI (x := (49, 0, 401)) rfl
theorem mw49 {f : Nat → Int32} : e_wr (m_H M F A h) (M + 1 + 30) (e_I 0 401 f) = m_H M F (va_up A 49 f) h := m_wA (x := (49, 0, 401)) rfl
theorem mr50 {kk : Nat → (Nat → Int32) → Prop} : e_gI (m_H M F A h) (M + 1 + 31) 0 kk = kk 401 (A 50) := m_gI (x := (50, 0, 401)) rfl
theorem mw50 {f : Nat → Int32} : e_wr (m_H M F A h) (M + 1 + 31) (e_I 0 401 f) = m_H M F (va_up A 50 f) h := m_wA (x := (50, 0, 401)) rfl
theorem mr51 {kk : Nat → (Nat → Int32) → Prop} : e_gI (m_H M F A h) (M + 1 + 32) 0 kk = kk 401 (A 51) := m_gI (x := (51, 0, 401)) rfl
theorem mw51 {f : Nat → Int32} : e_wr (m_H M F A h) (M + 1 + 32) (e_I 0 401 f) = m_H M F (va_up A 51 f) h := m_wA (x := (51, 0, 401)) rfl
theorem mr52 {kk : Nat → (Nat → Int32) → Prop} : e_gI (m_H M F A h) (M + 1 + 33) 0 kk = kk 401 (A 52) := m_gI (x := (52, 0, 401)) rfl
theorem mw52 {f : Nat → Int32} : e_wr (m_H M F A h) (M + 1 + 33) (e_I 0 401 f) = m_H M F (va_up A 52 f) h := m_wA (x := (52, 0, 401)) rfl
theorem mr53 {kk : Nat → (Nat → Int32) → Prop} : e_gI (m_H M F A h) (M + 1 + 34) 0 kk = kk 401 (A 53) := m_gI (x := (53, 0, 401)) rfl
theorem mw53 {f : Nat → Int32} : e_wr (m_H M F A h) (M + 1 + 34) (e_I 0 401 f) = m_H M F (va_up A 53 f) h := m_wA (x := (53, 0, 401)) rfl
theorem mr54 {kk : Nat → (Nat → Int32) → Prop} : e_gI (m_H M F A h) (M + 1 + 35) 0 kk = kk 2005 (A 54) := m_gI (x := (54, 0, 2005)) rfl
theorem mw54 {f : Nat → Int32} : e_wr (m_H M F A h) (M + 1 + 35) (e_I 0 2005 f) = m_H M F (va_up A 54 f) h := m_wA (x := (54, 0, 2005)) rfl
theorem mr55 {kk : Nat → (Nat → Int32) → Prop} : e_gI (m_H M F A h) (M + 1 + 36) 0 kk = kk 401 (A 55) := m_gI (x := (55, 0, 401)) rfl
theorem mw55 {f : Nat → Int32} : e_wr (m_H M F A h) (M + 1 + 36) (e_I 0 401 f) = m_H M F (va_up A 55 f) h := m_wA (x := (55, 0, 401)) rfl
theorem mr56 {kk : Nat → (Nat → Int32) → Prop} : e_gI (m_H M F A h) (M + 1 + 37) 0 kk = kk 401 (A 56) := m_gI (x := (56, 0, 401)) rfl
theorem mw56 {f : Nat → Int32} : e_wr (m_H M F A h) (M + 1 + 37) (e_I 0 401 f) = m_H M F (va_up A 56 f) h := m_wA (x := (56, 0, 401)) rfl
theorem mr57 {kk : Nat → (Nat → Int32) → Prop} : e_gI (m_H M F A h) (M + 1 + 38) 0 kk = kk 401 (A 57) := m_gI (x := (57, 0, 401)) rfl
theorem mw57 {f : Nat → Int32} : e_wr (m_H M F A h) (M + 1 + 38) (e_I 0 401 f) = m_H M F (va_up A 57 f) h := m_wA (x := (57, 0, 401)) rfl
theorem mr58 {kk : Nat → (Nat → Int32) → Prop} : e_gI (m_H M F A h) (M + 1 + 39) 0 kk = kk 401 (A 58) := m_gI (x := (58, 0, 401)) rfl
theorem mw58 {f : Nat → Int32} : e_wr (m_H M F A h) (M + 1 + 39) (e_I 0 401 f) = m_H M F (va_up A 58 f) h := m_wA (x := (58, 0, 401)) rfl
theorem mr59 {kk : Nat → (Nat → Int32) → Prop} : e_gI (m_H M F A h) (M + 1 + 40) 0 kk = kk 401 (A 59) := m_gI (x := (59, 0, 401)) rfl
theorem mw59 {f : Nat → Int32} : e_wr (m_H M F A h) (M + 1 + 40) (e_I 0 401 f) = m_H M F (va_up A 59 f) h := m_wA (x := (59, 0, 401)) rfl
theorem mw60 {x : Int32} : e_wr (m_H M F A h) M (e_O 13 (va_up (m_V M F) 60 (.int x))) = m_H M (va_up F 60 x) A h := m_wO rfl
theorem mr61 {kk : Nat → (Nat → Int32) → Prop} : e_gI (m_H M F A h) (M + 1 + 41) 0 kk = kk 401 (A 61) := m_gI (x := (61, 0, 401)) rfl
theorem mw61 {f : Nat → Int32} : e_wr (m_H M F A h) (M + 1 + 41) (e_I 0 401 f) = m_H M F (va_up A 61 f) h := m_wA (x := (61, 0, 401)) rfl
theorem mw62 {x : Int32} : e_wr (m_H M F A h) M (e_O 13 (va_up (m_V M F) 62 (.int x))) = m_H M (va_up F 62 x) A h := m_wO rfl
theorem mw63 {x : Int32} : e_wr (m_H M F A h) M (e_O 13 (va_up (m_V M F) 63 (.int x))) = m_H M (va_up F 63 x) A h := m_wO rfl
theorem mw64 {x : Int32} : e_wr (m_H M F A h) M (e_O 13 (va_up (m_V M F) 64 (.int x))) = m_H M (va_up F 64 x) A h := m_wO rfl
theorem mw65 {x : Int32} : e_wr (m_H M F A h) M (e_O 13 (va_up (m_V M F) 65 (.int x))) = m_H M (va_up F 65 x) A h := m_wO rfl
theorem mw66 {x : Int32} : e_wr (m_H M F A h) M (e_O 13 (va_up (m_V M F) 66 (.int x))) = m_H M (va_up F 66 x) A h := m_wO rfl
theorem mr67 {kk : Nat → (Nat → Int32) → Prop} : e_gI (m_H M F A h) (M + 1 + 42) 0 kk = kk 401 (A 67) := m_gI (x := (67, 0, 401)) rfl
theorem mw67 {f : Nat → Int32} : e_wr (m_H M F A h) (M + 1 + 42) (e_I 0 401 f) = m_H M F (va_up A 67 f) h := m_wA (x := (67, 0, 401)) rfl
theorem mr68 {kk : Nat → (Nat → Int32) → Prop} : e_gI (m_H M F A h) (M + 1 + 43) 0 kk = kk 401 (A 68) := m_gI (x := (68, 0, 401)) rfl
theorem mw68 {f : Nat → Int32} : e_wr (m_H M F A h) (M + 1 + 43) (e_I 0 401 f) = m_H M F (va_up A 68 f) h := m_wA (x := (68, 0, 401)) rfl
theorem mr69 {kk : Nat → (Nat → Int32) → Prop} : e_gI (m_H M F A h) (M + 1 + 44) 0 kk = kk 401 (A 69) := m_gI (x := (69, 0, 401)) rfl
theorem mw69 {f : Nat → Int32} : e_wr (m_H M F A h) (M + 1 + 44) (e_I 0 401 f) = m_H M F (va_up A 69 f) h := m_wA (x := (69, 0, 401)) rfl
theorem mr70 {kk : Nat → (Nat → Int32) → Prop} : e_gI (m_H M F A h) (M + 1 + 45) 0 kk = kk 401 (A 70) := m_gI (x := (70, 0, 401)) rfl
theorem mw70 {f : Nat → Int32} : e_wr (m_H M F A h) (M + 1 + 45) (e_I 0 401 f) = m_H M F (va_up A 70 f) h := m_wA (x := (70, 0, 401)) rfl
theorem mr71 {kk : Nat → (Nat → Int32) → Prop} : e_gI (m_H M F A h) (M + 1 + 46) 0 kk = kk 401 (A 71) := m_gI (x := (71, 0, 401)) rfl
theorem mw71 {f : Nat → Int32} : e_wr (m_H M F A h) (M + 1 + 46) (e_I 0 401 f) = m_H M F (va_up A 71 f) h := m_wA (x := (71, 0, 401)) rfl
theorem mw72 {x : Int32} : e_wr (m_H M F A h) M (e_O 13 (va_up (m_V M F) 72 (.int x))) = m_H M (va_up F 72 x) A h := m_wO rfl
theorem mr73 {kk : Nat → (Nat → Int32) → Prop} : e_gI (m_H M F A h) (M + 1 + 47) 0 kk = kk 6000 (A 73) := m_gI (x := (73, 0, 6000)) rfl
theorem mw73 {f : Nat → Int32} : e_wr (m_H M F A h) (M + 1 + 47) (e_I 0 6000 f) = m_H M F (va_up A 73 f) h := m_wA (x := (73, 0, 6000)) rfl
theorem mr74 {kk : Nat → (Nat → Int32) → Prop} : e_gI (m_H M F A h) (M + 1 + 48) 0 kk = kk 6000 (A 74) := m_gI (x := (74, 0, 6000)) rfl
theorem mw74 {f : Nat → Int32} : e_wr (m_H M F A h) (M + 1 + 48) (e_I 0 6000 f) = m_H M F (va_up A 74 f) h := m_wA (x := (74, 0, 6000)) rfl
theorem mr75 {kk : Nat → (Nat → Int32) → Prop} : e_gI (m_H M F A h) (M + 1 + 49) 0 kk = kk 6000 (A 75) := m_gI (x := (75, 0, 6000)) rfl
theorem mw75 {f : Nat → Int32} : e_wr (m_H M F A h) (M + 1 + 49) (e_I 0 6000 f) = m_H M F (va_up A 75 f) h := m_wA (x := (75, 0, 6000)) rfl
theorem mr76 {kk : Nat → (Nat → Int32) → Prop} : e_gI (m_H M F A h) (M + 1 + 50) 0 kk = kk 6000 (A 76) := m_gI (x := (76, 0, 6000)) rfl
theorem mw76 {f : Nat → Int32} : e_wr (m_H M F A h) (M + 1 + 50) (e_I 0 6000 f) = m_H M F (va_up A 76 f) h := m_wA (x := (76, 0, 6000)) rfl
theorem mr77 {kk : Nat → (Nat → Int32) → Prop} : e_gI (m_H M F A h) (M + 1 + 51) 0 kk = kk 6000 (A 77) := m_gI (x := (77, 0, 6000)) rfl
theorem mw77 {f : Nat → Int32} : e_wr (m_H M F A h) (M + 1 + 51) (e_I 0 6000 f) = m_H M F (va_up A 77 f) h := m_wA (x := (77, 0, 6000)) rfl
theorem mr78 {kk : Nat → (Nat → Int32) → Prop} : e_gI (m_H M F A h) (M + 1 + 52) 0 kk = kk 6000 (A 78) := m_gI (x := (78, 0, 6000)) rfl
theorem mw78 {f : Nat → Int32} : e_wr (m_H M F A h) (M + 1 + 52) (e_I 0 6000 f) = m_H M F (va_up A 78 f) h := m_wA (x := (78, 0, 6000)) rfl
theorem mr79 {kk : Nat → (Nat → Int32) → Prop} : e_gI (m_H M F A h) (M + 1 + 53) 1 kk = kk 6000 (A 79) := m_gI (x := (79, 1, 6000)) rfl
theorem mw79 {f : Nat → Int32} : e_wr (m_H M F A h) (M + 1 + 53) (e_I 1 6000 f) = m_H M F (va_up A 79 f) h := m_wA (x := (79, 1, 6000)) rfl
theorem mw80 {x : Int32} : e_wr (m_H M F A h) M (e_O 13 (va_up (m_V M F) 80 (.int x))) = m_H M (va_up F 80 x) A h := m_wO rfl
theorem mr81 {kk : Nat → (Nat → Int32) → Prop} : e_gI (m_H M F A h) (M + 1 + 54) 0 kk = kk 13 (A 81) := m_gI (x := (81, 0, 13)) rfl
theorem mw81 {f : Nat → Int32} : e_wr (m_H M F A h) (M + 1 + 54) (e_I 0 13 f) = m_H M F (va_up A 81 f) h := m_wA (x := (81, 0, 13)) rfl
theorem mr82 {kk : Nat → (Nat → Int32) → Prop} : e_gI (m_H M F A h) (M + 1 + 55) 0 kk = kk 13 (A 82) := m_gI (x := (82, 0, 13)) rfl
theorem mw82 {f : Nat → Int32} : e_wr (m_H M F A h) (M + 1 + 55) (e_I 0 13 f) = m_H M F (va_up A 82 f) h := m_wA (x := (82, 0, 13)) rfl
theorem mr83 {kk : Nat → (Nat → Int32) → Prop} : e_gI (m_H M F A h) (M + 1 + 56) 0 kk = kk 13 (A 83) := m_gI (x := (83, 0, 13)) rfl
theorem mw83 {f : Nat → Int32} : e_wr (m_H M F A h) (M + 1 + 56) (e_I 0 13 f) = m_H M F (va_up A 83 f) h := m_wA (x := (83, 0, 13)) rfl
theorem mr84 {kk : Nat → (Nat → Int32) → Prop} : e_gI (m_H M F A h) (M + 1 + 57) 0 kk = kk 13 (A 84) := m_gI (x := (84, 0, 13)) rfl
theorem mw84 {f : Nat → Int32} : e_wr (m_H M F A h) (M + 1 + 57) (e_I 0 13 f) = m_H M F (va_up A 84 f) h := m_wA (x := (84, 0, 13)) rfl
theorem mr85 {kk : Nat → (Nat → Int32) → Prop} : e_gI (m_H M F A h) (M + 1 + 58) 0 kk = kk 13 (A 85) := m_gI (x := (85, 0, 13)) rfl
theorem mw85 {f : Nat → Int32} : e_wr (m_H M F A h) (M + 1 + 58) (e_I 0 13 f) = m_H M F (va_up A 85 f) h := m_wA (x := (85, 0, 13)) rfl
theorem mr86 {kk : Nat → (Nat → Int32) → Prop} : e_gI (m_H M F A h) (M + 1 + 59) 1 kk = kk 13 (A 86) := m_gI (x := (86, 1, 13)) rfl
theorem mw86 {f : Nat → Int32} : e_wr (m_H M F A h) (M + 1 + 59) (e_I 1 13 f) = m_H M F (va_up A 86 f) h := m_wA (x := (86, 1, 13)) rfl
theorem mw87 {x : Int32} : e_wr (m_H M F A h) M (e_O 13 (va_up (m_V M F) 87 (.int x))) = m_H M (va_up F 87 x) A h := m_wO rfl
theorem mr88 {kk : Nat → (Nat → Int32) → Prop} : e_gI (m_H M F A h) (M + 1 + 60) 0 kk = kk 24 (A 88) := m_gI (x := (88, 0, 24)) rfl
theorem mw88 {f : Nat → Int32} : e_wr (m_H M F A h) (M + 1 + 60) (e_I 0 24 f) = m_H M F (va_up A 88 f) h := m_wA (x := (88, 0, 24)) rfl
theorem mr89 {kk : Nat → (Nat → Int32) → Prop} : e_gI (m_H M F A h) (M + 1 + 61) 0 kk = kk 24 (A 89) := m_gI (x := (89, 0, 24)) rfl
theorem mw89 {f : Nat → Int32} : e_wr (m_H M F A h) (M + 1 + 61) (e_I 0 24 f) = m_H M F (va_up A 89 f) h := m_wA (x := (89, 0, 24)) rfl
theorem mr90 {kk : Nat → (Nat → Int32) → Prop} : e_gI (m_H M F A h) (M + 1 + 62) 0 kk = kk 24 (A 90) := m_gI (x := (90, 0, 24)) rfl
theorem mw90 {f : Nat → Int32} : e_wr (m_H M F A h) (M + 1 + 62) (e_I 0 24 f) = m_H M F (va_up A 90 f) h := m_wA (x := (90, 0, 24)) rfl
theorem mr91 {kk : Nat → (Nat → Int32) → Prop} : e_gI (m_H M F A h) (M + 1 + 63) 0 kk = kk 24 (A 91) := m_gI (x := (91, 0, 24)) rfl
theorem mw91 {f : Nat → Int32} : e_wr (m_H M F A h) (M + 1 + 63) (e_I 0 24 f) = m_H M F (va_up A 91 f) h := m_wA (x := (91, 0, 24)) rfl
theorem mw92 {x : Int32} : e_wr (m_H M F A h) M (e_O 13 (va_up (m_V M F) 92 (.int x))) = m_H M (va_up F 92 x) A h := m_wO rfl
theorem mw93 {x : Int32} : e_wr (m_H M F A h) M (e_O 13 (va_up (m_V M F) 93 (.int x))) = m_H M (va_up F 93 x) A h := m_wO rfl
theorem mw94 {x : Int32} : e_wr (m_H M F A h) M (e_O 13 (va_up (m_V M F) 94 (.int x))) = m_H M (va_up F 94 x) A h := m_wO rfl
theorem mr95 {kk : Nat → (Nat → Int32) → Prop} : e_gI (m_H M F A h) (M + 1 + 64) 0 kk = kk 12 (A 95) := m_gI (x := (95, 0, 12)) rfl
theorem mw95 {f : Nat → Int32} : e_wr (m_H M F A h) (M + 1 + 64) (e_I 0 12 f) = m_H M F (va_up A 95 f) h := m_wA (x := (95, 0, 12)) rfl
theorem mr96 {kk : Nat → (Nat → Int32) → Prop} : e_gI (m_H M F A h) (M + 1 + 65) 0 kk = kk 401 (A 96) := m_gI (x := (96, 0, 401)) rfl
theorem mw96 {f : Nat → Int32} : e_wr (m_H M F A h) (M + 1 + 65) (e_I 0 401 f) = m_H M F (va_up A 96 f) h := m_wA (x := (96, 0, 401)) rfl
theorem mr97 {kk : Nat → (Nat → Int32) → Prop} : e_gI (m_H M F A h) (M + 1 + 66) 0 kk = kk 40 (A 97) := m_gI (x := (97, 0, 40)) rfl
theorem mw97 {f : Nat → Int32} : e_wr (m_H M F A h) (M + 1 + 66) (e_I 0 40 f) = m_H M F (va_up A 97 f) h := m_wA (x := (97, 0, 40)) rfl
theorem mr98 {kk : Nat → (Nat → Int32) → Prop} : e_gI (m_H M F A h) (M + 1 + 67) 0 kk = kk 16040 (A 98) := m_gI (x := (98, 0, 16040)) rfl
theorem mw98 {f : Nat → Int32} : e_wr (m_H M F A h) (M + 1 + 67) (e_I 0 16040 f) = m_H M F (va_up A 98 f) h := m_wA (x := (98, 0, 16040)) rfl
theorem mr99 {kk : Nat → (Nat → Int32) → Prop} : e_gI (m_H M F A h) (M + 1 + 68) 0 kk = kk 16040 (A 99) := m_gI (x := (99, 0, 16040)) rfl
theorem mw99 {f : Nat → Int32} : e_wr (m_H M F A h) (M + 1 + 68) (e_I 0 16040 f) = m_H M F (va_up A 99 f) h := m_wA (x := (99, 0, 16040)) rfl
theorem mr100 {kk : Nat → (Nat → Int32) → Prop} : e_gI (m_H M F A h) (M + 1 + 69) 0 kk = kk 700 (A 100) := m_gI (x := (100, 0, 700)) rfl
theorem mw100 {f : Nat → Int32} : e_wr (m_H M F A h) (M + 1 + 69) (e_I 0 700 f) = m_H M F (va_up A 100 f) h := m_wA (x := (100, 0, 700)) rfl
theorem mr101 {kk : Nat → (Nat → Int32) → Prop} : e_gI (m_H M F A h) (M + 1 + 70) 1 kk = kk 40 (A 101) := m_gI (x := (101, 1, 40)) rfl
theorem mw101 {f : Nat → Int32} : e_wr (m_H M F A h) (M + 1 + 70) (e_I 1 40 f) = m_H M F (va_up A 101 f) h := m_wA (x := (101, 1, 40)) rfl
end MS
theorem up_s {α : Type} {f : Nat → α} {k : Nat} {v : α} : va_up f k v k = v := by simp [va_up]
theorem up_n {α : Type} {f : Nat → α} {k j : Nat} {v : α} (h : j ≠ k) : va_up f k v j = f j := by simp [va_up, h]
theorem up_u {α : Type} {f : Nat → α} {k : Nat} {v w : α} : va_up (va_up f k v) k w = va_up f k w := by funext j; by_cases h : j = k <;> simp [va_up, h]
theorem up_i {α : Type} {f : Nat → α} {k : Nat} : va_up f k (f k) = f := by funext j; by_cases h : j = k <;> simp [va_up, h]
/-- 1 or 0 -/
def b_I (p : Prop) [Decidable p] : Int32 := if p then 1 else 0
theorem b_t {p : Prop} [Decidable p] (h : p) : b_I p = 1 := if_pos h
theorem b_f {p : Prop} [Decidable p] (h : ¬ p) : b_I p = 0 := if_neg h
theorem b_1 {p : Prop} [Decidable p] : (b_I p = 1) = p := by by_cases h : p <;> simp [b_I, h]
theorem b_0 {p : Prop} [Decidable p] : (b_I p = 0) = ¬ p := by by_cases h : p <;> simp [b_I, h]
theorem b_c {p : Prop} [Decidable p] : b_I p = 0 ∨ b_I p = 1 := by by_cases h : p <;> simp [b_I, h]
theorem i_in {j n : Nat} (h : j < n) (hn : n ≤ 2000000000) : vp_in (nI j) n = True := eq_true (vp_in_nI h (by omega))
theorem i_cl {j : Nat} (h : j ≤ 2000000000) : (nI j).toNatClampNeg = j := nI_clamp (by omega)
theorem i_add (a b : Nat) : nI a + nI b = nI (a + b) := nI_add a b
theorem i_a1 (a : Nat) : nI a + 1 = nI (a + 1) := nI_1 a
theorem i_m8 (a : Nat) : (8 : Int32) * nI a = nI (8 * a) := pk_mul 8 a
theorem i_m5 (a : Nat) : (5 : Int32) * nI a = nI (5 * a) := pk_mul 5 a
theorem i_m401 (a : Nat) : (401 : Int32) * nI a = nI (401 * a) := pk_mul 401 a
theorem i_40 (a : Nat) : (40 : Int32) + nI a = nI (40 + a) := nI_add 40 a
theorem i_80 (a : Nat) : (80 : Int32) + nI a = nI (80 + a) := nI_add 80 a
theorem i_r40 {a : Nat} (h : a ≤ 2000000000) : nI a - nI a / 40 * 40 = nI (a % 40) := pk_rem (d := 40) (by omega) (by decide) (by decide)
theorem i_s1 {a : Nat} (h : 0 < a) : nI a - 1 = nI (a - 1) := pk_sub (b := 1) h
theorem i_am1 {a : Nat} (h : 0 < a) : nI a + (-1) = nI (a - 1) := sb_m1 h
theorem i_sub {a b : Nat} (h : b ≤ a) : nI a - nI b = nI (a - b) := pk_sub h
theorem i_lt {a b : Nat} (ha : a ≤ 2000000000) (hb : b ≤ 2000000000) : (nI a < nI b) = (a < b) := propext (nI_ltI (by omega) (by omega))
theorem i_le {a b : Nat} (ha : a ≤ 2000000000) (hb : b ≤ 2000000000) : (nI a ≤ nI b) = (a ≤ b) := propext (nI_leI (by omega) (by omega))
theorem i_eq {a b : Nat} (ha : a ≤ 2000000000) (hb : b ≤ 2000000000) : (nI a = nI b) = (a = b) := propext (nI_eq (by omega) (by omega))
theorem il_le_0 {k : Nat} (h : k ≤ 2000000000) : ((0 : Int32) ≤ nI k) = (0 ≤ k) := i_le (a := 0) (by decide) h
theorem il_ge_0 {k : Nat} (h : k ≤ 2000000000) : (nI k ≤ (0 : Int32)) = (k ≤ 0) := i_le (b := 0) h (by decide)
theorem il_lt_0 {k : Nat} (h : k ≤ 2000000000) : ((0 : Int32) < nI k) = (0 < k) := i_lt (a := 0) (by decide) h
theorem il_gt_0 {k : Nat} (h : k ≤ 2000000000) : (nI k < (0 : Int32)) = (k < 0) := i_lt (b := 0) h (by decide)
theorem il_eq_0 {k : Nat} (h : k ≤ 2000000000) : (nI k = (0 : Int32)) = (k = 0) := i_eq (b := 0) h (by decide)
theorem il_le_1 {k : Nat} (h : k ≤ 2000000000) : ((1 : Int32) ≤ nI k) = (1 ≤ k) := i_le (a := 1) (by decide) h
theorem il_ge_1 {k : Nat} (h : k ≤ 2000000000) : (nI k ≤ (1 : Int32)) = (k ≤ 1) := i_le (b := 1) h (by decide)
theorem il_lt_1 {k : Nat} (h : k ≤ 2000000000) : ((1 : Int32) < nI k) = (1 < k) := i_lt (a := 1) (by decide) h
theorem il_gt_1 {k : Nat} (h : k ≤ 2000000000) : (nI k < (1 : Int32)) = (k < 1) := i_lt (b := 1) h (by decide)
theorem il_eq_1 {k : Nat} (h : k ≤ 2000000000) : (nI k = (1 : Int32)) = (k = 1) := i_eq (b := 1) h (by decide)
theorem il_le_2 {k : Nat} (h : k ≤ 2000000000) : ((2 : Int32) ≤ nI k) = (2 ≤ k) := i_le (a := 2) (by decide) h
theorem il_ge_2 {k : Nat} (h : k ≤ 2000000000) : (nI k ≤ (2 : Int32)) = (k ≤ 2) := i_le (b := 2) h (by decide)
theorem il_lt_2 {k : Nat} (h : k ≤ 2000000000) : ((2 : Int32) < nI k) = (2 < k) := i_lt (a := 2) (by decide) h
theorem il_gt_2 {k : Nat} (h : k ≤ 2000000000) : (nI k < (2 : Int32)) = (k < 2) := i_lt (b := 2) h (by decide)
theorem il_eq_2 {k : Nat} (h : k ≤ 2000000000) : (nI k = (2 : Int32)) = (k = 2) := i_eq (b := 2) h (by decide)
theorem il_le_3 {k : Nat} (h : k ≤ 2000000000) : ((3 : Int32) ≤ nI k) = (3 ≤ k) := i_le (a := 3) (by decide) h
theorem il_ge_3 {k : Nat} (h : k ≤ 2000000000) : (nI k ≤ (3 : Int32)) = (k ≤ 3) := i_le (b := 3) h (by decide)
theorem il_lt_3 {k : Nat} (h : k ≤ 2000000000) : ((3 : Int32) < nI k) = (3 < k) := i_lt (a := 3) (by decide) h
theorem il_gt_3 {k : Nat} (h : k ≤ 2000000000) : (nI k < (3 : Int32)) = (k < 3) := i_lt (b := 3) h (by decide)
theorem il_eq_3 {k : Nat} (h : k ≤ 2000000000) : (nI k = (3 : Int32)) = (k = 3) := i_eq (b := 3) h (by decide)
theorem il_le_4 {k : Nat} (h : k ≤ 2000000000) : ((4 : Int32) ≤ nI k) = (4 ≤ k) := i_le (a := 4) (by decide) h
theorem il_ge_4 {k : Nat} (h : k ≤ 2000000000) : (nI k ≤ (4 : Int32)) = (k ≤ 4) := i_le (b := 4) h (by decide)
theorem il_lt_4 {k : Nat} (h : k ≤ 2000000000) : ((4 : Int32) < nI k) = (4 < k) := i_lt (a := 4) (by decide) h
theorem il_gt_4 {k : Nat} (h : k ≤ 2000000000) : (nI k < (4 : Int32)) = (k < 4) := i_lt (b := 4) h (by decide)
theorem il_eq_4 {k : Nat} (h : k ≤ 2000000000) : (nI k = (4 : Int32)) = (k = 4) := i_eq (b := 4) h (by decide)
theorem il_le_5 {k : Nat} (h : k ≤ 2000000000) : ((5 : Int32) ≤ nI k) = (5 ≤ k) := i_le (a := 5) (by decide) h
theorem il_ge_5 {k : Nat} (h : k ≤ 2000000000) : (nI k ≤ (5 : Int32)) = (k ≤ 5) := i_le (b := 5) h (by decide)
theorem il_lt_5 {k : Nat} (h : k ≤ 2000000000) : ((5 : Int32) < nI k) = (5 < k) := i_lt (a := 5) (by decide) h
theorem il_gt_5 {k : Nat} (h : k ≤ 2000000000) : (nI k < (5 : Int32)) = (k < 5) := i_lt (b := 5) h (by decide)
theorem il_eq_5 {k : Nat} (h : k ≤ 2000000000) : (nI k = (5 : Int32)) = (k = 5) := i_eq (b := 5) h (by decide)
theorem il_le_6 {k : Nat} (h : k ≤ 2000000000) : ((6 : Int32) ≤ nI k) = (6 ≤ k) := i_le (a := 6) (by decide) h
theorem il_ge_6 {k : Nat} (h : k ≤ 2000000000) : (nI k ≤ (6 : Int32)) = (k ≤ 6) := i_le (b := 6) h (by decide)
theorem il_lt_6 {k : Nat} (h : k ≤ 2000000000) : ((6 : Int32) < nI k) = (6 < k) := i_lt (a := 6) (by decide) h
theorem il_gt_6 {k : Nat} (h : k ≤ 2000000000) : (nI k < (6 : Int32)) = (k < 6) := i_lt (b := 6) h (by decide)
theorem il_eq_6 {k : Nat} (h : k ≤ 2000000000) : (nI k = (6 : Int32)) = (k = 6) := i_eq (b := 6) h (by decide)
theorem il_le_7 {k : Nat} (h : k ≤ 2000000000) : ((7 : Int32) ≤ nI k) = (7 ≤ k) := i_le (a := 7) (by decide) h
theorem il_ge_7 {k : Nat} (h : k ≤ 2000000000) : (nI k ≤ (7 : Int32)) = (k ≤ 7) := i_le (b := 7) h (by decide)
theorem il_lt_7 {k : Nat} (h : k ≤ 2000000000) : ((7 : Int32) < nI k) = (7 < k) := i_lt (a := 7) (by decide) h
theorem il_gt_7 {k : Nat} (h : k ≤ 2000000000) : (nI k < (7 : Int32)) = (k < 7) := i_lt (b := 7) h (by decide)
theorem il_eq_7 {k : Nat} (h : k ≤ 2000000000) : (nI k = (7 : Int32)) = (k = 7) := i_eq (b := 7) h (by decide)
theorem il_le_8 {k : Nat} (h : k ≤ 2000000000) : ((8 : Int32) ≤ nI k) = (8 ≤ k) := i_le (a := 8) (by decide) h
theorem il_ge_8 {k : Nat} (h : k ≤ 2000000000) : (nI k ≤ (8 : Int32)) = (k ≤ 8) := i_le (b := 8) h (by decide)
theorem il_lt_8 {k : Nat} (h : k ≤ 2000000000) : ((8 : Int32) < nI k) = (8 < k) := i_lt (a := 8) (by decide) h
theorem il_gt_8 {k : Nat} (h : k ≤ 2000000000) : (nI k < (8 : Int32)) = (k < 8) := i_lt (b := 8) h (by decide)
theorem il_eq_8 {k : Nat} (h : k ≤ 2000000000) : (nI k = (8 : Int32)) = (k = 8) := i_eq (b := 8) h (by decide)
theorem il_le_12 {k : Nat} (h : k ≤ 2000000000) : ((12 : Int32) ≤ nI k) = (12 ≤ k) := i_le (a := 12) (by decide) h
theorem il_ge_12 {k : Nat} (h : k ≤ 2000000000) : (nI k ≤ (12 : Int32)) = (k ≤ 12) := i_le (b := 12) h (by decide)
theorem il_lt_12 {k : Nat} (h : k ≤ 2000000000) : ((12 : Int32) < nI k) = (12 < k) := i_lt (a := 12) (by decide) h
theorem il_gt_12 {k : Nat} (h : k ≤ 2000000000) : (nI k < (12 : Int32)) = (k < 12) := i_lt (b := 12) h (by decide)
theorem il_eq_12 {k : Nat} (h : k ≤ 2000000000) : (nI k = (12 : Int32)) = (k = 12) := i_eq (b := 12) h (by decide)
theorem il_le_16 {k : Nat} (h : k ≤ 2000000000) : ((16 : Int32) ≤ nI k) = (16 ≤ k) := i_le (a := 16) (by decide) h
theorem il_ge_16 {k : Nat} (h : k ≤ 2000000000) : (nI k ≤ (16 : Int32)) = (k ≤ 16) := i_le (b := 16) h (by decide)
theorem il_lt_16 {k : Nat} (h : k ≤ 2000000000) : ((16 : Int32) < nI k) = (16 < k) := i_lt (a := 16) (by decide) h
theorem il_gt_16 {k : Nat} (h : k ≤ 2000000000) : (nI k < (16 : Int32)) = (k < 16) := i_lt (b := 16) h (by decide)
theorem il_eq_16 {k : Nat} (h : k ≤ 2000000000) : (nI k = (16 : Int32)) = (k = 16) := i_eq (b := 16) h (by decide)
theorem il_le_20 {k : Nat} (h : k ≤ 2000000000) : ((20 : Int32) ≤ nI k) = (20 ≤ k) := i_le (a := 20) (by decide) h
theorem il_ge_20 {k : Nat} (h : k ≤ 2000000000) : (nI k ≤ (20 : Int32)) = (k ≤ 20) := i_le (b := 20) h (by decide)
theorem il_lt_20 {k : Nat} (h : k ≤ 2000000000) : ((20 : Int32) < nI k) = (20 < k) := i_lt (a := 20) (by decide) h
theorem il_gt_20 {k : Nat} (h : k ≤ 2000000000) : (nI k < (20 : Int32)) = (k < 20) := i_lt (b := 20) h (by decide)
theorem il_eq_20 {k : Nat} (h : k ≤ 2000000000) : (nI k = (20 : Int32)) = (k = 20) := i_eq (b := 20) h (by decide)
theorem il_le_21 {k : Nat} (h : k ≤ 2000000000) : ((21 : Int32) ≤ nI k) = (21 ≤ k) := i_le (a := 21) (by decide) h
theorem il_ge_21 {k : Nat} (h : k ≤ 2000000000) : (nI k ≤ (21 : Int32)) = (k ≤ 21) := i_le (b := 21) h (by decide)
theorem il_lt_21 {k : Nat} (h : k ≤ 2000000000) : ((21 : Int32) < nI k) = (21 < k) := i_lt (a := 21) (by decide) h
theorem il_gt_21 {k : Nat} (h : k ≤ 2000000000) : (nI k < (21 : Int32)) = (k < 21) := i_lt (b := 21) h (by decide)
theorem il_eq_21 {k : Nat} (h : k ≤ 2000000000) : (nI k = (21 : Int32)) = (k = 21) := i_eq (b := 21) h (by decide)
theorem il_le_40 {k : Nat} (h : k ≤ 2000000000) : ((40 : Int32) ≤ nI k) = (40 ≤ k) := i_le (a := 40) (by decide) h
theorem il_ge_40 {k : Nat} (h : k ≤ 2000000000) : (nI k ≤ (40 : Int32)) = (k ≤ 40) := i_le (b := 40) h (by decide)
theorem il_lt_40 {k : Nat} (h : k ≤ 2000000000) : ((40 : Int32) < nI k) = (40 < k) := i_lt (a := 40) (by decide) h
theorem il_gt_40 {k : Nat} (h : k ≤ 2000000000) : (nI k < (40 : Int32)) = (k < 40) := i_lt (b := 40) h (by decide)
theorem il_eq_40 {k : Nat} (h : k ≤ 2000000000) : (nI k = (40 : Int32)) = (k = 40) := i_eq (b := 40) h (by decide)
theorem il_le_100 {k : Nat} (h : k ≤ 2000000000) : ((100 : Int32) ≤ nI k) = (100 ≤ k) := i_le (a := 100) (by decide) h
theorem il_ge_100 {k : Nat} (h : k ≤ 2000000000) : (nI k ≤ (100 : Int32)) = (k ≤ 100) := i_le (b := 100) h (by decide)
theorem il_lt_100 {k : Nat} (h : k ≤ 2000000000) : ((100 : Int32) < nI k) = (100 < k) := i_lt (a := 100) (by decide) h
theorem il_gt_100 {k : Nat} (h : k ≤ 2000000000) : (nI k < (100 : Int32)) = (k < 100) := i_lt (b := 100) h (by decide)
theorem il_eq_100 {k : Nat} (h : k ≤ 2000000000) : (nI k = (100 : Int32)) = (k = 100) := i_eq (b := 100) h (by decide)
theorem il_le_120 {k : Nat} (h : k ≤ 2000000000) : ((120 : Int32) ≤ nI k) = (120 ≤ k) := i_le (a := 120) (by decide) h
theorem il_ge_120 {k : Nat} (h : k ≤ 2000000000) : (nI k ≤ (120 : Int32)) = (k ≤ 120) := i_le (b := 120) h (by decide)
theorem il_lt_120 {k : Nat} (h : k ≤ 2000000000) : ((120 : Int32) < nI k) = (120 < k) := i_lt (a := 120) (by decide) h
theorem il_gt_120 {k : Nat} (h : k ≤ 2000000000) : (nI k < (120 : Int32)) = (k < 120) := i_lt (b := 120) h (by decide)
theorem il_eq_120 {k : Nat} (h : k ≤ 2000000000) : (nI k = (120 : Int32)) = (k = 120) := i_eq (b := 120) h (by decide)
theorem il_le_200 {k : Nat} (h : k ≤ 2000000000) : ((200 : Int32) ≤ nI k) = (200 ≤ k) := i_le (a := 200) (by decide) h
theorem il_ge_200 {k : Nat} (h : k ≤ 2000000000) : (nI k ≤ (200 : Int32)) = (k ≤ 200) := i_le (b := 200) h (by decide)
theorem il_lt_200 {k : Nat} (h : k ≤ 2000000000) : ((200 : Int32) < nI k) = (200 < k) := i_lt (a := 200) (by decide) h
theorem il_gt_200 {k : Nat} (h : k ≤ 2000000000) : (nI k < (200 : Int32)) = (k < 200) := i_lt (b := 200) h (by decide)
theorem il_eq_200 {k : Nat} (h : k ≤ 2000000000) : (nI k = (200 : Int32)) = (k = 200) := i_eq (b := 200) h (by decide)
theorem il_le_400 {k : Nat} (h : k ≤ 2000000000) : ((400 : Int32) ≤ nI k) = (400 ≤ k) := i_le (a := 400) (by decide) h
theorem il_ge_400 {k : Nat} (h : k ≤ 2000000000) : (nI k ≤ (400 : Int32)) = (k ≤ 400) := i_le (b := 400) h (by decide)
theorem il_lt_400 {k : Nat} (h : k ≤ 2000000000) : ((400 : Int32) < nI k) = (400 < k) := i_lt (a := 400) (by decide) h
theorem il_gt_400 {k : Nat} (h : k ≤ 2000000000) : (nI k < (400 : Int32)) = (k < 400) := i_lt (b := 400) h (by decide)
theorem il_eq_400 {k : Nat} (h : k ≤ 2000000000) : (nI k = (400 : Int32)) = (k = 400) := i_eq (b := 400) h (by decide)
theorem il_le_700 {k : Nat} (h : k ≤ 2000000000) : ((700 : Int32) ≤ nI k) = (700 ≤ k) := i_le (a := 700) (by decide) h
theorem il_ge_700 {k : Nat} (h : k ≤ 2000000000) : (nI k ≤ (700 : Int32)) = (k ≤ 700) := i_le (b := 700) h (by decide)
theorem il_lt_700 {k : Nat} (h : k ≤ 2000000000) : ((700 : Int32) < nI k) = (700 < k) := i_lt (a := 700) (by decide) h
theorem il_gt_700 {k : Nat} (h : k ≤ 2000000000) : (nI k < (700 : Int32)) = (k < 700) := i_lt (b := 700) h (by decide)
theorem il_eq_700 {k : Nat} (h : k ≤ 2000000000) : (nI k = (700 : Int32)) = (k = 700) := i_eq (b := 700) h (by decide)
theorem i_m1 {k : Nat} (h : k ≤ 2000000000) : (nI k = -1) = False := eq_false (fun z => by have := congrArg Int32.toInt z; rw [nI_toInt (by omega)] at this; rw [show (-1 : Int32).toInt = -1 from (by decide)] at this; omega)
