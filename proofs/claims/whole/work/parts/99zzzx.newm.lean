/-! the reference is made -/
section WA
variable {g : e_G} {Ψ : e_Q} {M k s l t f : Nat} {F : Nat → Int32} {h : Nat → Option e_Cl} {kk : (Nat → Value) → Prop} {c : e_Cl} {x : Int32}
/-- its fields when k arrays are made -/
def n_V (k M : Nat) (F : Nat → Int32) (f : Nat) : Value := match m_K.getD f none with
  | some j => if j < k then .ref (M + 1 + j) else .null
  | none => .int (F f)
def n_H (k M : Nat) (F : Nat → Int32) (s : Nat) (h : Nat → Option e_Cl) : e_Hp := (fun a => if a = M then some (e_O 13 (n_V k M F)) else if M < a ∧ a ≤ M + k then (match m_J[a - M - 1]? with | some x => some (e_I x.2.1 x.2.2 (fun _ => 0)) | none => h a) else h a, M + 1 + k, s)
theorem n_H21 : (n_H k M F s h).2.1 = M + 1 + k := rfl
theorem n_gO : e_gO (e_al (n_H k M F s h) c l) M 13 kk = kk (n_V k M F) := by
  have e : (e_al (n_H k M F s h) c l).1 M = some (e_O 13 (n_V k M F)) := by
    show va_up (n_H k M F s h).1 (M + 1 + k) (some c) M = _
    rw [up_n (by omega)]
    unfold n_H
    dsimp only
    rw [if_pos rfl]
  unfold e_gO
  rw [e]
  exact propext ⟨fun q => q.2, fun q => ⟨rfl, q⟩⟩
theorem n_gF : e_gO (n_H k M F s h) M 13 kk = kk (n_V k M F) := by
  have e : (n_H k M F s h).1 M = some (e_O 13 (n_V k M F)) := by
    unfold n_H
    dsimp only
    rw [if_pos rfl]
  unfold e_gO
  rw [e]
  exact propext ⟨fun q => q.2, fun q => ⟨rfl, q⟩⟩
theorem m_KJ : ∀ k, k < 71 → m_K.getD (m_J.getD k (0, 0, 0)).1 none = some k ∧ ∀ g, g < 102 → m_K.getD g none = some k → g = (m_J.getD k (0, 0, 0)).1 := by decide +kernel
theorem m_Kl : m_K.length = 102 := rfl
theorem m_Jl : m_J.length = 71 := rfl
theorem n_wr (hJ : m_J[k]? = some (f, t, l)) : e_wr (e_al (n_H k M F s h) (e_I t l (fun _ => 0)) l) M (e_O 13 (va_up (n_V k M F) f (.ref (M + 1 + k)))) = n_H (k + 1) M F (s + l) h := by
  have hk : k < 71 := by
    by_cases c : k < 71
    · exact c
    · rw [List.getElem?_eq_none (by rw [m_Jl]; omega)] at hJ; cases hJ
  have hg : m_J.getD k (0, 0, 0) = (f, t, l) := by rw [List.getD_eq_getElem?_getD, hJ]; rfl
  obtain ⟨q1, q2⟩ := m_KJ k hk
  rw [hg] at q1 q2
  have eV : va_up (n_V k M F) f (.ref (M + 1 + k)) = n_V (k + 1) M F := by
    funext y
    by_cases cy : y = f
    · subst cy
      rw [up_s]
      unfold n_V
      rw [q1]
      dsimp only
      rw [if_pos (by omega)]
    · rw [up_n cy]
      unfold n_V
      cases hy : m_K.getD y none with
      | none => rfl
      | some j =>
        dsimp only
        have jk : j ≠ k := fun z => by
          subst z
          by_cases c2 : y < 102
          · exact cy (q2 y c2 hy)
          · rw [List.getD_eq_getElem?_getD, List.getElem?_eq_none (by rw [m_Kl]; omega)] at hy
            cases hy
        by_cases c3 : j < k
        · rw [if_pos c3, if_pos (by omega)]
        · rw [if_neg c3, if_neg (by omega)]
  rw [eV]
  unfold e_wr e_al n_H
  refine Prod.ext (funext fun a => ?_) rfl
  dsimp only
  by_cases ca : a = M
  · subst ca; rw [up_s, if_pos rfl]
  · rw [up_n ca, if_neg ca]
    by_cases cb : a = M + 1 + k
    · subst cb
      rw [up_s, if_pos (by omega), show M + 1 + k - M - 1 = k by omega, hJ]
    · rw [up_n cb, if_neg ca]
      by_cases cc : M < a ∧ a ≤ M + k
      · rw [if_pos cc, if_pos (by omega)]
      · rw [if_neg cc, if_neg (by omega)]
theorem n_wF (hf : m_K.getD f none = none) : e_wr (n_H k M F s h) M (e_O 13 (va_up (n_V k M F) f (.int x))) = n_H k M (va_up F f x) s h := by
  have eV : va_up (n_V k M F) f (.int x) = n_V k M (va_up F f x) := by
    funext y
    by_cases cy : y = f
    · subst cy
      rw [up_s]
      unfold n_V
      rw [hf]
      dsimp only
      rw [up_s]
    · rw [up_n cy]
      unfold n_V
      rw [up_n cy]
  rw [eV]
  unfold e_wr n_H
  refine Prod.ext (funext fun a => ?_) rfl
  dsimp only
  by_cases ca : a = M
  · subst ca; rw [up_s, if_pos rfl]
  · rw [up_n ca, if_neg ca, if_neg ca]
theorem n_m : n_H 71 M F s h = m_H M F (fun _ _ => 0) (h, (M + 72, s)) := by
  unfold n_H m_H
  refine Prod.ext (funext fun a => ?_) rfl
  dsimp only
  by_cases ca : a = M
  · subst ca
    rw [if_pos rfl, if_neg (by omega), if_pos rfl]
    congr 2
    funext y
    unfold n_V m_V
    cases hy : m_K.getD y none with
    | none => rfl
    | some j =>
      have : j < 71 := by
        by_cases c2 : y < 102
        · have key : ∀ y, y < 102 → ∀ j, m_K.getD y none = some j → j < 71 := by
            intro y hy j hj
            have : ∀ y, y < 102 → (match m_K.getD y none with | some j => decide (j < 71) | none => true) = true := by decide +kernel
            have := this y hy
            rw [hj] at this
            simpa using this
          exact key y c2 j hy
        · rw [List.getD_eq_getElem?_getD, List.getElem?_eq_none (by rw [m_Kl]; omega)] at hy
          cases hy
      dsimp only
      rw [if_pos this]
  · rw [if_neg ca]
    by_cases cl : a < M
    · rw [if_pos cl, if_neg (by omega)]
    · rw [if_neg cl, if_neg ca]
      by_cases cc : a ≤ M + 71
      · rw [if_pos (by omega)]
        cases m_J[a - M - 1]? <;> rfl
      · rw [if_neg (by omega), List.getElem?_eq_none (by rw [m_Jl]; omega)]
theorem tc128 : Int32.toNatClampNeg 128 = 128 := by decide
theorem tc1024 : Int32.toNatClampNeg 1024 = 1024 := by decide
theorem tc6000 : Int32.toNatClampNeg 6000 = 6000 := by decide
theorem tc700 : Int32.toNatClampNeg 700 = 700 := by decide
theorem tc13 : Int32.toNatClampNeg 13 = 13 := by decide
theorem tc401 : Int32.toNatClampNeg 401 = 401 := by decide
theorem tc2005 : Int32.toNatClampNeg 2005 = 2005 := by decide
theorem tc24 : Int32.toNatClampNeg 24 = 24 := by decide
theorem tc16040 : Int32.toNatClampNeg 16040 = 16040 := by decide
theorem n_stI {x len p3 p4 n3 n4 pe : Nat} {t3 t4 : List Nat} {c : Int32} {r : List e_En} {lv : e_Lv} {J : e_J} (hJ : m_J[k]? = some (f, 0, len)) (hF : e_FT 13 x = some (13, f, 2)) (hc : c.toNatClampNeg = len) (h0 : ¬ c < 0) (hl : len ≤ 65536) : e_exec g 152 13 ((p3, .newarray .int, n3, t3) :: (p4, .putfield x, n4, t4) :: r) pe lv [.int c, .ref M] (n_H k M F s h) J Ψ = e_exec g 152 13 r pe lv [] (n_H (k + 1) M F (s + len) h) J Ψ := by
  rw [x_newarray_int, hc, x_putfield, hF]
  show (¬ c < 0 ∧ len ≤ 65536 ∧ (e_fit 2 (.ref (M + 1 + k)) ∧ e_gO (e_al (n_H k M F s h) (e_I 0 len (fun _ => 0)) len) M 13 _)) = _
  rw [n_gO]
  dsimp only
  rw [n_H21, n_wr hJ]
  exact propext ⟨fun q => q.2.2.2, fun q => ⟨h0, hl, trivial, q⟩⟩
theorem n_stB {x len p3 p4 n3 n4 pe : Nat} {t3 t4 : List Nat} {c : Int32} {r : List e_En} {lv : e_Lv} {J : e_J} (hJ : m_J[k]? = some (f, 1, len)) (hF : e_FT 13 x = some (13, f, 2)) (hc : c.toNatClampNeg = len) (h0 : ¬ c < 0) (hl : len ≤ 65536) : e_exec g 152 13 ((p3, .newarray .boolean, n3, t3) :: (p4, .putfield x, n4, t4) :: r) pe lv [.int c, .ref M] (n_H k M F s h) J Ψ = e_exec g 152 13 r pe lv [] (n_H (k + 1) M F (s + len) h) J Ψ := by
  rw [x_newarray_boolean, hc, x_putfield, hF]
  show (¬ c < 0 ∧ len ≤ 65536 ∧ (e_fit 2 (.ref (M + 1 + k)) ∧ e_gO (e_al (n_H k M F s h) (e_I 1 len (fun _ => 0)) len) M 13 _)) = _
  rw [n_gO]
  dsimp only
  rw [n_H21, n_wr hJ]
  exact propext ⟨fun q => q.2.2.2, fun q => ⟨h0, hl, trivial, q⟩⟩
theorem n_stF {x p4 n4 pe : Nat} {t4 : List Nat} {c : Int32} {r : List e_En} {lv : e_Lv} {J : e_J} (hK : m_K.getD f none = none) (hF : e_FT 13 x = some (13, f, 0)) : e_exec g 152 13 ((p4, .putfield x, n4, t4) :: r) pe lv [.int c, .ref M] (n_H k M F s h) J Ψ = e_exec g 152 13 r pe lv [] (n_H k M (va_up F f c) s h) J Ψ := by
  rw [x_putfield, hF]
  show (e_fit 0 (.int c) ∧ e_gO (n_H k M F s h) M 13 _) = _
  rw [n_gF]
  dsimp only
  rw [n_wF hK]
  exact propext ⟨fun q => q.2, fun q => ⟨trivial, q⟩⟩
theorem cal5 {o x a : Nat} {lv : e_Lv} {H : e_Hp} {K : e_K} (hm : e_MT o x = some (5, 0, 0, 0)) (q : K lv [] H) : e_cal g (e_MT o x) lv [.ref a] H K := by
  rw [hm]
  unfold e_cal e_p1r
  exact ⟨by rw [x_l40]; trivial, q⟩
theorem c_newModel (hg : e_GK g) (q : Ψ none (m_H M (va_up (va_up (fun _ => 0) 1 200) 2 1) (fun _ _ => 0) (h, (M + 72, s + 141267)))) : e_Sc g 152 [.ref M] (n_H 0 M (fun _ => 0) s h) Ψ := by
  have e : ∀ X, X = s + 141267 → Ψ none (m_H M (va_up (va_up (fun _ => 0) 1 200) 2 1) (fun _ _ => 0) (h, (M + 72, X))) := fun X hX => by rw [hX]; exact q
  refine e_call (cd := cd152) hg ok152 (by rw [mL152]; exact Nat.le_of_ble_eq_true rfl) ?_
  rw [mL152]
  simp only [x_ini, x_inr, x_inn, x_inq, x_inl, x_in0, x_rp0, x_rps, Nat.reduceSub]
  refine Eq.mpr u152_0 ?_
  refine Eq.mpr x_aload_0r ?_
  refine Eq.mpr x_invokespecial ?_
  refine cal5 mt_13_1 ?_
  refine Eq.mpr x_aload_0r ?_
  refine Eq.mpr x_bipush_40 ?_
  refine Eq.mpr (n_stI (k := 0) (f := 4) (len := 40) (by decide) ft_13_7 tc40 (by decide) (by decide)) ?_
  refine Eq.mpr x_aload_0r ?_
  refine Eq.mpr x_bipush_40 ?_
  refine Eq.mpr (n_stI (k := 1) (f := 5) (len := 40) (by decide) ft_13_13 tc40 (by decide) (by decide)) ?_
  refine Eq.mpr x_aload_0r ?_
  refine Eq.mpr x_bipush_40 ?_
  refine Eq.mpr (n_stI (k := 2) (f := 6) (len := 40) (by decide) ft_13_16 tc40 (by decide) (by decide)) ?_
  refine Eq.mpr x_aload_0r ?_
  refine Eq.mpr x_bipush_40 ?_
  refine Eq.mpr (n_stI (k := 3) (f := 7) (len := 40) (by decide) ft_13_19 tc40 (by decide) (by decide)) ?_
  refine Eq.mpr x_aload_0r ?_
  refine Eq.mpr x_sipush_128 ?_
  refine Eq.mpr (n_stI (k := 4) (f := 9) (len := 128) (by decide) ft_13_22 tc128 (by decide) (by decide)) ?_
  refine Eq.mpr x_aload_0r ?_
  refine Eq.mpr x_sipush_128 ?_
  refine Eq.mpr (n_stI (k := 5) (f := 10) (len := 128) (by decide) ft_13_25 tc128 (by decide) (by decide)) ?_
  refine Eq.mpr x_aload_0r ?_
  refine Eq.mpr x_sipush_128 ?_
  refine Eq.mpr (n_stI (k := 6) (f := 11) (len := 128) (by decide) ft_13_28 tc128 (by decide) (by decide)) ?_
  refine Eq.mpr x_aload_0r ?_
  refine Eq.mpr x_sipush_1024 ?_
  refine Eq.mpr (n_stI (k := 7) (f := 12) (len := 1024) (by decide) ft_13_31 tc1024 (by decide) (by decide)) ?_
  refine Eq.mpr x_aload_0r ?_
  refine Eq.mpr x_sipush_6000 ?_
  refine Eq.mpr (n_stI (k := 8) (f := 17) (len := 6000) (by decide) ft_13_34 tc6000 (by decide) (by decide)) ?_
  refine Eq.mpr x_aload_0r ?_
  refine Eq.mpr x_sipush_6000 ?_
  refine Eq.mpr (n_stI (k := 9) (f := 18) (len := 6000) (by decide) ft_13_37 tc6000 (by decide) (by decide)) ?_
  refine Eq.mpr x_aload_0r ?_
  refine Eq.mpr x_sipush_6000 ?_
  refine Eq.mpr (n_stI (k := 10) (f := 19) (len := 6000) (by decide) ft_13_40 tc6000 (by decide) (by decide)) ?_
  refine Eq.mpr x_aload_0r ?_
  refine Eq.mpr x_sipush_6000 ?_
  refine Eq.mpr (n_stI (k := 11) (f := 20) (len := 6000) (by decide) ft_13_43 tc6000 (by decide) (by decide)) ?_
  refine Eq.mpr x_aload_0r ?_
  refine Eq.mpr x_sipush_6000 ?_
  refine Eq.mpr (n_stI (k := 12) (f := 21) (len := 6000) (by decide) ft_13_46 tc6000 (by decide) (by decide)) ?_
  refine Eq.mpr x_aload_0r ?_
  refine Eq.mpr x_sipush_6000 ?_
  refine Eq.mpr (n_stI (k := 13) (f := 22) (len := 6000) (by decide) ft_13_49 tc6000 (by decide) (by decide)) ?_
  refine Eq.mpr x_aload_0r ?_
  refine Eq.mpr x_sipush_6000 ?_
  refine Eq.mpr (n_stI (k := 14) (f := 23) (len := 6000) (by decide) ft_13_52 tc6000 (by decide) (by decide)) ?_
  refine Eq.mpr x_aload_0r ?_
  refine Eq.mpr x_sipush_6000 ?_
  refine Eq.mpr (n_stI (k := 15) (f := 24) (len := 6000) (by decide) ft_13_55 tc6000 (by decide) (by decide)) ?_
  refine Eq.mpr x_aload_0r ?_
  refine Eq.mpr x_bipush_16 ?_
  refine Eq.mpr (n_stI (k := 16) (f := 31) (len := 16) (by decide) ft_13_58 tc16 (by decide) (by decide)) ?_
  refine Eq.mpr x_aload_0r ?_
  refine Eq.mpr x_sipush_700 ?_
  refine Eq.mpr (n_stI (k := 17) (f := 34) (len := 700) (by decide) ft_13_61 tc700 (by decide) (by decide)) ?_
  refine Eq.mpr x_aload_0r ?_
  refine Eq.mpr x_sipush_700 ?_
  refine Eq.mpr (n_stI (k := 18) (f := 35) (len := 700) (by decide) ft_13_64 tc700 (by decide) (by decide)) ?_
  refine Eq.mpr x_aload_0r ?_
  refine Eq.mpr x_sipush_700 ?_
  refine Eq.mpr (n_stI (k := 19) (f := 36) (len := 700) (by decide) ft_13_67 tc700 (by decide) (by decide)) ?_
  refine Eq.mpr x_aload_0r ?_
  refine Eq.mpr x_sipush_700 ?_
  refine Eq.mpr (n_stI (k := 20) (f := 37) (len := 700) (by decide) ft_13_70 tc700 (by decide) (by decide)) ?_
  refine Eq.mpr x_aload_0r ?_
  refine Eq.mpr x_sipush_700 ?_
  refine Eq.mpr (n_stI (k := 21) (f := 38) (len := 700) (by decide) ft_13_73 tc700 (by decide) (by decide)) ?_
  refine Eq.mpr x_aload_0r ?_
  refine Eq.mpr x_sipush_700 ?_
  refine Eq.mpr (n_stI (k := 22) (f := 39) (len := 700) (by decide) ft_13_76 tc700 (by decide) (by decide)) ?_
  refine Eq.mpr x_aload_0r ?_
  refine Eq.mpr x_sipush_700 ?_
  refine Eq.mpr (n_stI (k := 23) (f := 40) (len := 700) (by decide) ft_13_79 tc700 (by decide) (by decide)) ?_
  refine Eq.mpr x_aload_0r ?_
  refine Eq.mpr x_sipush_700 ?_
  refine Eq.mpr (n_stB (k := 24) (f := 41) (len := 700) (by decide) ft_13_82 tc700 (by decide) (by decide)) ?_
  refine Eq.mpr x_aload_0r ?_
  refine Eq.mpr x_sipush_700 ?_
  refine Eq.mpr (n_stI (k := 25) (f := 42) (len := 700) (by decide) ft_13_86 tc700 (by decide) (by decide)) ?_
  refine Eq.mpr x_aload_0r ?_
  refine Eq.mpr x_sipush_700 ?_
  refine Eq.mpr (n_stI (k := 26) (f := 43) (len := 700) (by decide) ft_13_89 tc700 (by decide) (by decide)) ?_
  refine Eq.mpr x_aload_0r ?_
  refine Eq.mpr x_bipush_13 ?_
  refine Eq.mpr (n_stI (k := 27) (f := 46) (len := 13) (by decide) ft_13_92 tc13 (by decide) (by decide)) ?_
  refine Eq.mpr x_aload_0r ?_
  refine Eq.mpr x_sipush_401 ?_
  refine Eq.mpr (n_stI (k := 28) (f := 47) (len := 401) (by decide) ft_13_95 tc401 (by decide) (by decide)) ?_
  refine Eq.mpr x_aload_0r ?_
  refine Eq.mpr x_sipush_401 ?_
  refine Eq.mpr (n_stI (k := 29) (f := 48) (len := 401) (by decide) ft_13_98 tc401 (by decide) (by decide)) ?_
  refine Eq.mpr x_aload_0r ?_
  refine Eq.mpr x_sipush_401 ?_
  refine Eq.mpr (n_stI (k := 30) (f := 49) (len := 401) (by decide) ft_13_101 tc401 (by decide) (by decide)) ?_
  refine Eq.mpr x_aload_0r ?_
  refine Eq.mpr x_sipush_401 ?_
  refine Eq.mpr (n_stI (k := 31) (f := 50) (len := 401) (by decide) ft_13_104 tc401 (by decide) (by decide)) ?_
  refine Eq.mpr x_aload_0r ?_
  refine Eq.mpr x_sipush_401 ?_
  refine Eq.mpr (n_stI (k := 32) (f := 51) (len := 401) (by decide) ft_13_107 tc401 (by decide) (by decide)) ?_
  refine Eq.mpr x_aload_0r ?_
  refine Eq.mpr x_sipush_401 ?_
  refine Eq.mpr (n_stI (k := 33) (f := 52) (len := 401) (by decide) ft_13_110 tc401 (by decide) (by decide)) ?_
  refine Eq.mpr x_aload_0r ?_
  refine Eq.mpr x_sipush_401 ?_
  refine Eq.mpr (n_stI (k := 34) (f := 53) (len := 401) (by decide) ft_13_113 tc401 (by decide) (by decide)) ?_
  refine Eq.mpr x_aload_0r ?_
  refine Eq.mpr x_sipush_2005 ?_
  refine Eq.mpr (n_stI (k := 35) (f := 54) (len := 2005) (by decide) ft_13_116 tc2005 (by decide) (by decide)) ?_
  refine Eq.mpr x_aload_0r ?_
  refine Eq.mpr x_sipush_401 ?_
  refine Eq.mpr (n_stI (k := 36) (f := 55) (len := 401) (by decide) ft_13_119 tc401 (by decide) (by decide)) ?_
  refine Eq.mpr x_aload_0r ?_
  refine Eq.mpr x_sipush_401 ?_
  refine Eq.mpr (n_stI (k := 37) (f := 56) (len := 401) (by decide) ft_13_122 tc401 (by decide) (by decide)) ?_
  refine Eq.mpr x_aload_0r ?_
  refine Eq.mpr x_sipush_401 ?_
  refine Eq.mpr (n_stI (k := 38) (f := 57) (len := 401) (by decide) ft_13_125 tc401 (by decide) (by decide)) ?_
  refine Eq.mpr x_aload_0r ?_
  refine Eq.mpr x_sipush_401 ?_
  refine Eq.mpr (n_stI (k := 39) (f := 58) (len := 401) (by decide) ft_13_128 tc401 (by decide) (by decide)) ?_
  refine Eq.mpr x_aload_0r ?_
  refine Eq.mpr x_sipush_401 ?_
  refine Eq.mpr (n_stI (k := 40) (f := 59) (len := 401) (by decide) ft_13_131 tc401 (by decide) (by decide)) ?_
  refine Eq.mpr x_aload_0r ?_
  refine Eq.mpr x_sipush_401 ?_
  refine Eq.mpr (n_stI (k := 41) (f := 61) (len := 401) (by decide) ft_13_134 tc401 (by decide) (by decide)) ?_
  refine Eq.mpr x_aload_0r ?_
  refine Eq.mpr x_sipush_401 ?_
  refine Eq.mpr (n_stI (k := 42) (f := 67) (len := 401) (by decide) ft_13_137 tc401 (by decide) (by decide)) ?_
  refine Eq.mpr x_aload_0r ?_
  refine Eq.mpr x_sipush_401 ?_
  refine Eq.mpr (n_stI (k := 43) (f := 68) (len := 401) (by decide) ft_13_140 tc401 (by decide) (by decide)) ?_
  refine Eq.mpr x_aload_0r ?_
  refine Eq.mpr x_sipush_401 ?_
  refine Eq.mpr (n_stI (k := 44) (f := 69) (len := 401) (by decide) ft_13_143 tc401 (by decide) (by decide)) ?_
  refine Eq.mpr x_aload_0r ?_
  refine Eq.mpr x_sipush_401 ?_
  refine Eq.mpr (n_stI (k := 45) (f := 70) (len := 401) (by decide) ft_13_146 tc401 (by decide) (by decide)) ?_
  refine Eq.mpr x_aload_0r ?_
  refine Eq.mpr x_sipush_401 ?_
  refine Eq.mpr (n_stI (k := 46) (f := 71) (len := 401) (by decide) ft_13_149 tc401 (by decide) (by decide)) ?_
  refine Eq.mpr x_aload_0r ?_
  refine Eq.mpr x_sipush_6000 ?_
  refine Eq.mpr (n_stI (k := 47) (f := 73) (len := 6000) (by decide) ft_13_152 tc6000 (by decide) (by decide)) ?_
  refine Eq.mpr x_aload_0r ?_
  refine Eq.mpr x_sipush_6000 ?_
  refine Eq.mpr (n_stI (k := 48) (f := 74) (len := 6000) (by decide) ft_13_155 tc6000 (by decide) (by decide)) ?_
  refine Eq.mpr x_aload_0r ?_
  refine Eq.mpr x_sipush_6000 ?_
  refine Eq.mpr (n_stI (k := 49) (f := 75) (len := 6000) (by decide) ft_13_158 tc6000 (by decide) (by decide)) ?_
  refine Eq.mpr x_aload_0r ?_
  refine Eq.mpr x_sipush_6000 ?_
  refine Eq.mpr (n_stI (k := 50) (f := 76) (len := 6000) (by decide) ft_13_161 tc6000 (by decide) (by decide)) ?_
  refine Eq.mpr x_aload_0r ?_
  refine Eq.mpr x_sipush_6000 ?_
  refine Eq.mpr (n_stI (k := 51) (f := 77) (len := 6000) (by decide) ft_13_164 tc6000 (by decide) (by decide)) ?_
  refine Eq.mpr x_aload_0r ?_
  refine Eq.mpr x_sipush_6000 ?_
  refine Eq.mpr (n_stI (k := 52) (f := 78) (len := 6000) (by decide) ft_13_167 tc6000 (by decide) (by decide)) ?_
  refine Eq.mpr x_aload_0r ?_
  refine Eq.mpr x_sipush_6000 ?_
  refine Eq.mpr (n_stB (k := 53) (f := 79) (len := 6000) (by decide) ft_13_170 tc6000 (by decide) (by decide)) ?_
  refine Eq.mpr x_aload_0r ?_
  refine Eq.mpr x_bipush_13 ?_
  refine Eq.mpr (n_stI (k := 54) (f := 81) (len := 13) (by decide) ft_13_173 tc13 (by decide) (by decide)) ?_
  refine Eq.mpr x_aload_0r ?_
  refine Eq.mpr x_bipush_13 ?_
  refine Eq.mpr (n_stI (k := 55) (f := 82) (len := 13) (by decide) ft_13_176 tc13 (by decide) (by decide)) ?_
  refine Eq.mpr x_aload_0r ?_
  refine Eq.mpr x_bipush_13 ?_
  refine Eq.mpr (n_stI (k := 56) (f := 83) (len := 13) (by decide) ft_13_179 tc13 (by decide) (by decide)) ?_
  refine Eq.mpr x_aload_0r ?_
  refine Eq.mpr x_bipush_13 ?_
  refine Eq.mpr (n_stI (k := 57) (f := 84) (len := 13) (by decide) ft_13_182 tc13 (by decide) (by decide)) ?_
  refine Eq.mpr x_aload_0r ?_
  refine Eq.mpr x_bipush_13 ?_
  refine Eq.mpr (n_stI (k := 58) (f := 85) (len := 13) (by decide) ft_13_185 tc13 (by decide) (by decide)) ?_
  refine Eq.mpr x_aload_0r ?_
  refine Eq.mpr x_bipush_13 ?_
  refine Eq.mpr (n_stB (k := 59) (f := 86) (len := 13) (by decide) ft_13_188 tc13 (by decide) (by decide)) ?_
  refine Eq.mpr x_aload_0r ?_
  refine Eq.mpr x_bipush_24 ?_
  refine Eq.mpr (n_stI (k := 60) (f := 88) (len := 24) (by decide) ft_13_191 tc24 (by decide) (by decide)) ?_
  refine Eq.mpr x_aload_0r ?_
  refine Eq.mpr x_bipush_24 ?_
  refine Eq.mpr (n_stI (k := 61) (f := 89) (len := 24) (by decide) ft_13_194 tc24 (by decide) (by decide)) ?_
  refine Eq.mpr x_aload_0r ?_
  refine Eq.mpr x_bipush_24 ?_
  refine Eq.mpr (n_stI (k := 62) (f := 90) (len := 24) (by decide) ft_13_197 tc24 (by decide) (by decide)) ?_
  refine Eq.mpr x_aload_0r ?_
  refine Eq.mpr x_bipush_24 ?_
  refine Eq.mpr (n_stI (k := 63) (f := 91) (len := 24) (by decide) ft_13_200 tc24 (by decide) (by decide)) ?_
  refine Eq.mpr x_aload_0r ?_
  refine Eq.mpr x_bipush_12 ?_
  refine Eq.mpr (n_stI (k := 64) (f := 95) (len := 12) (by decide) ft_13_203 tc12 (by decide) (by decide)) ?_
  refine Eq.mpr x_aload_0r ?_
  refine Eq.mpr x_sipush_401 ?_
  refine Eq.mpr (n_stI (k := 65) (f := 96) (len := 401) (by decide) ft_13_206 tc401 (by decide) (by decide)) ?_
  refine Eq.mpr x_aload_0r ?_
  refine Eq.mpr x_bipush_40 ?_
  refine Eq.mpr (n_stI (k := 66) (f := 97) (len := 40) (by decide) ft_13_209 tc40 (by decide) (by decide)) ?_
  refine Eq.mpr x_aload_0r ?_
  refine Eq.mpr x_sipush_16040 ?_
  refine Eq.mpr (n_stI (k := 67) (f := 98) (len := 16040) (by decide) ft_13_212 tc16040 (by decide) (by decide)) ?_
  refine Eq.mpr x_aload_0r ?_
  refine Eq.mpr x_sipush_16040 ?_
  refine Eq.mpr (n_stI (k := 68) (f := 99) (len := 16040) (by decide) ft_13_215 tc16040 (by decide) (by decide)) ?_
  refine Eq.mpr x_aload_0r ?_
  refine Eq.mpr x_sipush_700 ?_
  refine Eq.mpr (n_stI (k := 69) (f := 100) (len := 700) (by decide) ft_13_218 tc700 (by decide) (by decide)) ?_
  refine Eq.mpr x_aload_0r ?_
  refine Eq.mpr x_bipush_40 ?_
  refine Eq.mpr (n_stB (k := 70) (f := 101) (len := 40) (by decide) ft_13_221 tc40 (by decide) (by decide)) ?_
  refine Eq.mpr x_aload_0r ?_
  refine Eq.mpr x_sipush_200 ?_
  refine Eq.mpr (n_stF (f := 1) (by decide) ft_13_224) ?_
  refine Eq.mpr x_aload_0r ?_
  refine Eq.mpr x_iconst_1 ?_
  refine Eq.mpr (n_stF (f := 2) (by decide) ft_13_228) ?_
  refine Eq.mpr x_return ?_
  refine Eq.mpr (congrArg (Ψ none) n_m) ?_
  exact e _ (by omega)
end WA
