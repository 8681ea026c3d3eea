/-! one rewriting row an instruction -/
section XR
variable {g : e_G} {k o pc n pe : Nat} {tg : List Nat} {r : List e_En} {lv : e_Lv} {st : List Value} {h : e_Hp} {J : e_J} {Ψ : e_Q}
theorem x_iconst_m1 : e_exec g k o ((pc, .iconst (-1), n, tg) :: r) pe lv st h J Ψ = e_exec g k o r pe lv (.int (-1) :: st) h J Ψ := by (simp only [e_exec, e_step] <;> rfl)
theorem x_iconst_0 : e_exec g k o ((pc, .iconst 0, n, tg) :: r) pe lv st h J Ψ = e_exec g k o r pe lv (.int 0 :: st) h J Ψ := by (simp only [e_exec, e_step] <;> rfl)
theorem x_iconst_1 : e_exec g k o ((pc, .iconst 1, n, tg) :: r) pe lv st h J Ψ = e_exec g k o r pe lv (.int 1 :: st) h J Ψ := by (simp only [e_exec, e_step] <;> rfl)
theorem x_iconst_2 : e_exec g k o ((pc, .iconst 2, n, tg) :: r) pe lv st h J Ψ = e_exec g k o r pe lv (.int 2 :: st) h J Ψ := by (simp only [e_exec, e_step] <;> rfl)
theorem x_iconst_3 : e_exec g k o ((pc, .iconst 3, n, tg) :: r) pe lv st h J Ψ = e_exec g k o r pe lv (.int 3 :: st) h J Ψ := by (simp only [e_exec, e_step] <;> rfl)
theorem x_iconst_4 : e_exec g k o ((pc, .iconst 4, n, tg) :: r) pe lv st h J Ψ = e_exec g k o r pe lv (.int 4 :: st) h J Ψ := by (simp only [e_exec, e_step] <;> rfl)
theorem x_iconst_5 : e_exec g k o ((pc, .iconst 5, n, tg) :: r) pe lv st h J Ψ = e_exec g k o r pe lv (.int 5 :: st) h J Ψ := by (simp only [e_exec, e_step] <;> rfl)
theorem x_bipush_m10 : e_exec g k o ((pc, .bipush (-10), n, tg) :: r) pe lv st h J Ψ = e_exec g k o r pe lv (.int (-10) :: st) h J Ψ := by (simp only [e_exec, e_step] <;> rfl)
theorem x_bipush_m9 : e_exec g k o ((pc, .bipush (-9), n, tg) :: r) pe lv st h J Ψ = e_exec g k o r pe lv (.int (-9) :: st) h J Ψ := by (simp only [e_exec, e_step] <;> rfl)
theorem x_bipush_m6 : e_exec g k o ((pc, .bipush (-6), n, tg) :: r) pe lv st h J Ψ = e_exec g k o r pe lv (.int (-6) :: st) h J Ψ := by (simp only [e_exec, e_step] <;> rfl)
theorem x_bipush_m3 : e_exec g k o ((pc, .bipush (-3), n, tg) :: r) pe lv st h J Ψ = e_exec g k o r pe lv (.int (-3) :: st) h J Ψ := by (simp only [e_exec, e_step] <;> rfl)
theorem x_bipush_m2 : e_exec g k o ((pc, .bipush (-2), n, tg) :: r) pe lv st h J Ψ = e_exec g k o r pe lv (.int (-2) :: st) h J Ψ := by (simp only [e_exec, e_step] <;> rfl)
theorem x_bipush_6 : e_exec g k o ((pc, .bipush 6, n, tg) :: r) pe lv st h J Ψ = e_exec g k o r pe lv (.int 6 :: st) h J Ψ := by (simp only [e_exec, e_step] <;> rfl)
theorem x_bipush_7 : e_exec g k o ((pc, .bipush 7, n, tg) :: r) pe lv st h J Ψ = e_exec g k o r pe lv (.int 7 :: st) h J Ψ := by (simp only [e_exec, e_step] <;> rfl)
theorem x_bipush_8 : e_exec g k o ((pc, .bipush 8, n, tg) :: r) pe lv st h J Ψ = e_exec g k o r pe lv (.int 8 :: st) h J Ψ := by (simp only [e_exec, e_step] <;> rfl)
theorem x_bipush_9 : e_exec g k o ((pc, .bipush 9, n, tg) :: r) pe lv st h J Ψ = e_exec g k o r pe lv (.int 9 :: st) h J Ψ := by (simp only [e_exec, e_step] <;> rfl)
theorem x_bipush_10 : e_exec g k o ((pc, .bipush 10, n, tg) :: r) pe lv st h J Ψ = e_exec g k o r pe lv (.int 10 :: st) h J Ψ := by (simp only [e_exec, e_step] <;> rfl)
theorem x_bipush_11 : e_exec g k o ((pc, .bipush 11, n, tg) :: r) pe lv st h J Ψ = e_exec g k o r pe lv (.int 11 :: st) h J Ψ := by (simp only [e_exec, e_step] <;> rfl)
theorem x_bipush_12 : e_exec g k o ((pc, .bipush 12, n, tg) :: r) pe lv st h J Ψ = e_exec g k o r pe lv (.int 12 :: st) h J Ψ := by (simp only [e_exec, e_step] <;> rfl)
theorem x_bipush_13 : e_exec g k o ((pc, .bipush 13, n, tg) :: r) pe lv st h J Ψ = e_exec g k o r pe lv (.int 13 :: st) h J Ψ := by (simp only [e_exec, e_step] <;> rfl)
theorem x_bipush_14 : e_exec g k o ((pc, .bipush 14, n, tg) :: r) pe lv st h J Ψ = e_exec g k o r pe lv (.int 14 :: st) h J Ψ := by (simp only [e_exec, e_step] <;> rfl)
theorem x_bipush_15 : e_exec g k o ((pc, .bipush 15, n, tg) :: r) pe lv st h J Ψ = e_exec g k o r pe lv (.int 15 :: st) h J Ψ := by (simp only [e_exec, e_step] <;> rfl)
theorem x_bipush_16 : e_exec g k o ((pc, .bipush 16, n, tg) :: r) pe lv st h J Ψ = e_exec g k o r pe lv (.int 16 :: st) h J Ψ := by (simp only [e_exec, e_step] <;> rfl)
theorem x_bipush_17 : e_exec g k o ((pc, .bipush 17, n, tg) :: r) pe lv st h J Ψ = e_exec g k o r pe lv (.int 17 :: st) h J Ψ := by (simp only [e_exec, e_step] <;> rfl)
theorem x_bipush_18 : e_exec g k o ((pc, .bipush 18, n, tg) :: r) pe lv st h J Ψ = e_exec g k o r pe lv (.int 18 :: st) h J Ψ := by (simp only [e_exec, e_step] <;> rfl)
theorem x_bipush_19 : e_exec g k o ((pc, .bipush 19, n, tg) :: r) pe lv st h J Ψ = e_exec g k o r pe lv (.int 19 :: st) h J Ψ := by (simp only [e_exec, e_step] <;> rfl)
theorem x_bipush_20 : e_exec g k o ((pc, .bipush 20, n, tg) :: r) pe lv st h J Ψ = e_exec g k o r pe lv (.int 20 :: st) h J Ψ := by (simp only [e_exec, e_step] <;> rfl)
theorem x_bipush_21 : e_exec g k o ((pc, .bipush 21, n, tg) :: r) pe lv st h J Ψ = e_exec g k o r pe lv (.int 21 :: st) h J Ψ := by (simp only [e_exec, e_step] <;> rfl)
theorem x_bipush_22 : e_exec g k o ((pc, .bipush 22, n, tg) :: r) pe lv st h J Ψ = e_exec g k o r pe lv (.int 22 :: st) h J Ψ := by (simp only [e_exec, e_step] <;> rfl)
theorem x_bipush_23 : e_exec g k o ((pc, .bipush 23, n, tg) :: r) pe lv st h J Ψ = e_exec g k o r pe lv (.int 23 :: st) h J Ψ := by (simp only [e_exec, e_step] <;> rfl)
theorem x_bipush_24 : e_exec g k o ((pc, .bipush 24, n, tg) :: r) pe lv st h J Ψ = e_exec g k o r pe lv (.int 24 :: st) h J Ψ := by (simp only [e_exec, e_step] <;> rfl)
theorem x_bipush_25 : e_exec g k o ((pc, .bipush 25, n, tg) :: r) pe lv st h J Ψ = e_exec g k o r pe lv (.int 25 :: st) h J Ψ := by (simp only [e_exec, e_step] <;> rfl)
theorem x_bipush_31 : e_exec g k o ((pc, .bipush 31, n, tg) :: r) pe lv st h J Ψ = e_exec g k o r pe lv (.int 31 :: st) h J Ψ := by (simp only [e_exec, e_step] <;> rfl)
theorem x_bipush_32 : e_exec g k o ((pc, .bipush 32, n, tg) :: r) pe lv st h J Ψ = e_exec g k o r pe lv (.int 32 :: st) h J Ψ := by (simp only [e_exec, e_step] <;> rfl)
theorem x_bipush_40 : e_exec g k o ((pc, .bipush 40, n, tg) :: r) pe lv st h J Ψ = e_exec g k o r pe lv (.int 40 :: st) h J Ψ := by (simp only [e_exec, e_step] <;> rfl)
theorem x_bipush_63 : e_exec g k o ((pc, .bipush 63, n, tg) :: r) pe lv st h J Ψ = e_exec g k o r pe lv (.int 63 :: st) h J Ψ := by (simp only [e_exec, e_step] <;> rfl)
theorem x_bipush_64 : e_exec g k o ((pc, .bipush 64, n, tg) :: r) pe lv st h J Ψ = e_exec g k o r pe lv (.int 64 :: st) h J Ψ := by (simp only [e_exec, e_step] <;> rfl)
theorem x_bipush_80 : e_exec g k o ((pc, .bipush 80, n, tg) :: r) pe lv st h J Ψ = e_exec g k o r pe lv (.int 80 :: st) h J Ψ := by (simp only [e_exec, e_step] <;> rfl)
theorem x_bipush_99 : e_exec g k o ((pc, .bipush 99, n, tg) :: r) pe lv st h J Ψ = e_exec g k o r pe lv (.int 99 :: st) h J Ψ := by (simp only [e_exec, e_step] <;> rfl)
theorem x_bipush_100 : e_exec g k o ((pc, .bipush 100, n, tg) :: r) pe lv st h J Ψ = e_exec g k o r pe lv (.int 100 :: st) h J Ψ := by (simp only [e_exec, e_step] <;> rfl)
theorem x_bipush_120 : e_exec g k o ((pc, .bipush 120, n, tg) :: r) pe lv st h J Ψ = e_exec g k o r pe lv (.int 120 :: st) h J Ψ := by (simp only [e_exec, e_step] <;> rfl)
theorem x_bipush_121 : e_exec g k o ((pc, .bipush 121, n, tg) :: r) pe lv st h J Ψ = e_exec g k o r pe lv (.int 121 :: st) h J Ψ := by (simp only [e_exec, e_step] <;> rfl)
theorem x_sipush_128 : e_exec g k o ((pc, .sipush 128, n, tg) :: r) pe lv st h J Ψ = e_exec g k o r pe lv (.int 128 :: st) h J Ψ := by (simp only [e_exec, e_step] <;> rfl)
theorem x_sipush_200 : e_exec g k o ((pc, .sipush 200, n, tg) :: r) pe lv st h J Ψ = e_exec g k o r pe lv (.int 200 :: st) h J Ψ := by (simp only [e_exec, e_step] <;> rfl)
theorem x_sipush_400 : e_exec g k o ((pc, .sipush 400, n, tg) :: r) pe lv st h J Ψ = e_exec g k o r pe lv (.int 400 :: st) h J Ψ := by (simp only [e_exec, e_step] <;> rfl)
theorem x_sipush_401 : e_exec g k o ((pc, .sipush 401, n, tg) :: r) pe lv st h J Ψ = e_exec g k o r pe lv (.int 401 :: st) h J Ψ := by (simp only [e_exec, e_step] <;> rfl)
theorem x_sipush_700 : e_exec g k o ((pc, .sipush 700, n, tg) :: r) pe lv st h J Ψ = e_exec g k o r pe lv (.int 700 :: st) h J Ψ := by (simp only [e_exec, e_step] <;> rfl)
theorem x_sipush_960 : e_exec g k o ((pc, .sipush 960, n, tg) :: r) pe lv st h J Ψ = e_exec g k o r pe lv (.int 960 :: st) h J Ψ := by (simp only [e_exec, e_step] <;> rfl)
theorem x_sipush_961 : e_exec g k o ((pc, .sipush 961, n, tg) :: r) pe lv st h J Ψ = e_exec g k o r pe lv (.int 961 :: st) h J Ψ := by (simp only [e_exec, e_step] <;> rfl)
theorem x_sipush_1000 : e_exec g k o ((pc, .sipush 1000, n, tg) :: r) pe lv st h J Ψ = e_exec g k o r pe lv (.int 1000 :: st) h J Ψ := by (simp only [e_exec, e_step] <;> rfl)
theorem x_sipush_1024 : e_exec g k o ((pc, .sipush 1024, n, tg) :: r) pe lv st h J Ψ = e_exec g k o r pe lv (.int 1024 :: st) h J Ψ := by (simp only [e_exec, e_step] <;> rfl)
theorem x_sipush_2005 : e_exec g k o ((pc, .sipush 2005, n, tg) :: r) pe lv st h J Ψ = e_exec g k o r pe lv (.int 2005 :: st) h J Ψ := by (simp only [e_exec, e_step] <;> rfl)
theorem x_sipush_6000 : e_exec g k o ((pc, .sipush 6000, n, tg) :: r) pe lv st h J Ψ = e_exec g k o r pe lv (.int 6000 :: st) h J Ψ := by (simp only [e_exec, e_step] <;> rfl)
theorem x_sipush_16040 : e_exec g k o ((pc, .sipush 16040, n, tg) :: r) pe lv st h J Ψ = e_exec g k o r pe lv (.int 16040 :: st) h J Ψ := by (simp only [e_exec, e_step] <;> rfl)
theorem x_lconst_0 : e_exec g k o ((pc, .lconst 0, n, tg) :: r) pe lv st h J Ψ = e_exec g k o r pe lv (.long 0 :: st) h J Ψ := by (simp only [e_exec, e_step] <;> rfl)
theorem x_lconst_1 : e_exec g k o ((pc, .lconst 1, n, tg) :: r) pe lv st h J Ψ = e_exec g k o r pe lv (.long 1 :: st) h J Ψ := by (simp only [e_exec, e_step] <;> rfl)
theorem x_null : e_exec g k o ((pc, .aconst_null, n, tg) :: r) pe lv st h J Ψ = e_exec g k o r pe lv (.null :: st) h J Ψ := by (simp only [e_exec, e_step] <;> rfl)
theorem x_iload_0 {t : e_Lv}{x : Int32} : e_exec g k o ((pc, .iload_n 0, n, tg) :: r) pe (some (.int x) :: t) st h J Ψ = e_exec g k o r pe (some (.int x) :: t) (.int x :: st) h J Ψ := by (simp only [e_exec, e_step] <;> rfl)
theorem x_lload_0 {t : e_Lv}{x : Int64} : e_exec g k o ((pc, .lload_n 0, n, tg) :: r) pe (some (.long x) :: t) st h J Ψ = e_exec g k o r pe (some (.long x) :: t) (.long x :: st) h J Ψ := by (simp only [e_exec, e_step] <;> rfl)
theorem x_aload_0r {t : e_Lv}{x : Nat} : e_exec g k o ((pc, .aload_n 0, n, tg) :: r) pe (some (.ref x) :: t) st h J Ψ = e_exec g k o r pe (some (.ref x) :: t) (.ref x :: st) h J Ψ := by (simp only [e_exec, e_step] <;> rfl)
theorem x_aload_0n {t : e_Lv} : e_exec g k o ((pc, .aload_n 0, n, tg) :: r) pe (some (.null) :: t) st h J Ψ = e_exec g k o r pe (some (.null) :: t) (.null :: st) h J Ψ := by (simp only [e_exec, e_step] <;> rfl)
theorem x_aload_0q {t : e_Lv}{x : Option Nat} : e_exec g k o ((pc, .aload_n 0, n, tg) :: r) pe (some (va_rf x) :: t) st h J Ψ = e_exec g k o r pe (some (va_rf x) :: t) (va_rf x :: st) h J Ψ := by (cases x <;> (simp only [e_exec, e_step, va_rf] <;> rfl))
theorem x_iload_1 {a0 : Option Value} {t : e_Lv}{x : Int32} : e_exec g k o ((pc, .iload_n 1, n, tg) :: r) pe (a0 :: some (.int x) :: t) st h J Ψ = e_exec g k o r pe (a0 :: some (.int x) :: t) (.int x :: st) h J Ψ := by (simp only [e_exec, e_step] <;> rfl)
theorem x_lload_1 {a0 : Option Value} {t : e_Lv}{x : Int64} : e_exec g k o ((pc, .lload_n 1, n, tg) :: r) pe (a0 :: some (.long x) :: t) st h J Ψ = e_exec g k o r pe (a0 :: some (.long x) :: t) (.long x :: st) h J Ψ := by (simp only [e_exec, e_step] <;> rfl)
theorem x_aload_1r {a0 : Option Value} {t : e_Lv}{x : Nat} : e_exec g k o ((pc, .aload_n 1, n, tg) :: r) pe (a0 :: some (.ref x) :: t) st h J Ψ = e_exec g k o r pe (a0 :: some (.ref x) :: t) (.ref x :: st) h J Ψ := by (simp only [e_exec, e_step] <;> rfl)
theorem x_aload_1n {a0 : Option Value} {t : e_Lv} : e_exec g k o ((pc, .aload_n 1, n, tg) :: r) pe (a0 :: some (.null) :: t) st h J Ψ = e_exec g k o r pe (a0 :: some (.null) :: t) (.null :: st) h J Ψ := by (simp only [e_exec, e_step] <;> rfl)
theorem x_aload_1q {a0 : Option Value} {t : e_Lv}{x : Option Nat} : e_exec g k o ((pc, .aload_n 1, n, tg) :: r) pe (a0 :: some (va_rf x) :: t) st h J Ψ = e_exec g k o r pe (a0 :: some (va_rf x) :: t) (va_rf x :: st) h J Ψ := by (cases x <;> (simp only [e_exec, e_step, va_rf] <;> rfl))
theorem x_iload_2 {a0 a1 : Option Value} {t : e_Lv}{x : Int32} : e_exec g k o ((pc, .iload_n 2, n, tg) :: r) pe (a0 :: a1 :: some (.int x) :: t) st h J Ψ = e_exec g k o r pe (a0 :: a1 :: some (.int x) :: t) (.int x :: st) h J Ψ := by (simp only [e_exec, e_step] <;> rfl)
theorem x_lload_2 {a0 a1 : Option Value} {t : e_Lv}{x : Int64} : e_exec g k o ((pc, .lload_n 2, n, tg) :: r) pe (a0 :: a1 :: some (.long x) :: t) st h J Ψ = e_exec g k o r pe (a0 :: a1 :: some (.long x) :: t) (.long x :: st) h J Ψ := by (simp only [e_exec, e_step] <;> rfl)
theorem x_aload_2r {a0 a1 : Option Value} {t : e_Lv}{x : Nat} : e_exec g k o ((pc, .aload_n 2, n, tg) :: r) pe (a0 :: a1 :: some (.ref x) :: t) st h J Ψ = e_exec g k o r pe (a0 :: a1 :: some (.ref x) :: t) (.ref x :: st) h J Ψ := by (simp only [e_exec, e_step] <;> rfl)
theorem x_aload_2n {a0 a1 : Option Value} {t : e_Lv} : e_exec g k o ((pc, .aload_n 2, n, tg) :: r) pe (a0 :: a1 :: some (.null) :: t) st h J Ψ = e_exec g k o r pe (a0 :: a1 :: some (.null) :: t) (.null :: st) h J Ψ := by (simp only [e_exec, e_step] <;> rfl)
theorem x_aload_2q {a0 a1 : Option Value} {t : e_Lv}{x : Option Nat} : e_exec g k o ((pc, .aload_n 2, n, tg) :: r) pe (a0 :: a1 :: some (va_rf x) :: t) st h J Ψ = e_exec g k o r pe (a0 :: a1 :: some (va_rf x) :: t) (va_rf x :: st) h J Ψ := by (cases x <;> (simp only [e_exec, e_step, va_rf] <;> rfl))
theorem x_iload_3 {a0 a1 a2 : Option Value} {t : e_Lv}{x : Int32} : e_exec g k o ((pc, .iload_n 3, n, tg) :: r) pe (a0 :: a1 :: a2 :: some (.int x) :: t) st h J Ψ = e_exec g k o r pe (a0 :: a1 :: a2 :: some (.int x) :: t) (.int x :: st) h J Ψ := by (simp only [e_exec, e_step] <;> rfl)
theorem x_lload_3 {a0 a1 a2 : Option Value} {t : e_Lv}{x : Int64} : e_exec g k o ((pc, .lload_n 3, n, tg) :: r) pe (a0 :: a1 :: a2 :: some (.long x) :: t) st h J Ψ = e_exec g k o r pe (a0 :: a1 :: a2 :: some (.long x) :: t) (.long x :: st) h J Ψ := by (simp only [e_exec, e_step] <;> rfl)
theorem x_aload_3r {a0 a1 a2 : Option Value} {t : e_Lv}{x : Nat} : e_exec g k o ((pc, .aload_n 3, n, tg) :: r) pe (a0 :: a1 :: a2 :: some (.ref x) :: t) st h J Ψ = e_exec g k o r pe (a0 :: a1 :: a2 :: some (.ref x) :: t) (.ref x :: st) h J Ψ := by (simp only [e_exec, e_step] <;> rfl)
theorem x_aload_3n {a0 a1 a2 : Option Value} {t : e_Lv} : e_exec g k o ((pc, .aload_n 3, n, tg) :: r) pe (a0 :: a1 :: a2 :: some (.null) :: t) st h J Ψ = e_exec g k o r pe (a0 :: a1 :: a2 :: some (.null) :: t) (.null :: st) h J Ψ := by (simp only [e_exec, e_step] <;> rfl)
theorem x_aload_3q {a0 a1 a2 : Option Value} {t : e_Lv}{x : Option Nat} : e_exec g k o ((pc, .aload_n 3, n, tg) :: r) pe (a0 :: a1 :: a2 :: some (va_rf x) :: t) st h J Ψ = e_exec g k o r pe (a0 :: a1 :: a2 :: some (va_rf x) :: t) (va_rf x :: st) h J Ψ := by (cases x <;> (simp only [e_exec, e_step, va_rf] <;> rfl))
theorem x_iload_4 {a0 a1 a2 a3 : Option Value} {t : e_Lv}{x : Int32} : e_exec g k o ((pc, .iload 4, n, tg) :: r) pe (a0 :: a1 :: a2 :: a3 :: some (.int x) :: t) st h J Ψ = e_exec g k o r pe (a0 :: a1 :: a2 :: a3 :: some (.int x) :: t) (.int x :: st) h J Ψ := by (simp only [e_exec, e_step] <;> rfl)
theorem x_lload_4 {a0 a1 a2 a3 : Option Value} {t : e_Lv}{x : Int64} : e_exec g k o ((pc, .lload 4, n, tg) :: r) pe (a0 :: a1 :: a2 :: a3 :: some (.long x) :: t) st h J Ψ = e_exec g k o r pe (a0 :: a1 :: a2 :: a3 :: some (.long x) :: t) (.long x :: st) h J Ψ := by (simp only [e_exec, e_step] <;> rfl)
theorem x_aload_4r {a0 a1 a2 a3 : Option Value} {t : e_Lv}{x : Nat} : e_exec g k o ((pc, .aload 4, n, tg) :: r) pe (a0 :: a1 :: a2 :: a3 :: some (.ref x) :: t) st h J Ψ = e_exec g k o r pe (a0 :: a1 :: a2 :: a3 :: some (.ref x) :: t) (.ref x :: st) h J Ψ := by (simp only [e_exec, e_step] <;> rfl)
theorem x_aload_4n {a0 a1 a2 a3 : Option Value} {t : e_Lv} : e_exec g k o ((pc, .aload 4, n, tg) :: r) pe (a0 :: a1 :: a2 :: a3 :: some (.null) :: t) st h J Ψ = e_exec g k o r pe (a0 :: a1 :: a2 :: a3 :: some (.null) :: t) (.null :: st) h J Ψ := by (simp only [e_exec, e_step] <;> rfl)
theorem x_aload_4q {a0 a1 a2 a3 : Option Value} {t : e_Lv}{x : Option Nat} : e_exec g k o ((pc, .aload 4, n, tg) :: r) pe (a0 :: a1 :: a2 :: a3 :: some (va_rf x) :: t) st h J Ψ = e_exec g k o r pe (a0 :: a1 :: a2 :: a3 :: some (va_rf x) :: t) (va_rf x :: st) h J Ψ := by (cases x <;> (simp only [e_exec, e_step, va_rf] <;> rfl))
theorem x_iload_5 {a0 a1 a2 a3 a4 : Option Value} {t : e_Lv}{x : Int32} : e_exec g k o ((pc, .iload 5, n, tg) :: r) pe (a0 :: a1 :: a2 :: a3 :: a4 :: some (.int x) :: t) st h J Ψ = e_exec g k o r pe (a0 :: a1 :: a2 :: a3 :: a4 :: some (.int x) :: t) (.int x :: st) h J Ψ := by (simp only [e_exec, e_step] <;> rfl)
theorem x_lload_5 {a0 a1 a2 a3 a4 : Option Value} {t : e_Lv}{x : Int64} : e_exec g k o ((pc, .lload 5, n, tg) :: r) pe (a0 :: a1 :: a2 :: a3 :: a4 :: some (.long x) :: t) st h J Ψ = e_exec g k o r pe (a0 :: a1 :: a2 :: a3 :: a4 :: some (.long x) :: t) (.long x :: st) h J Ψ := by (simp only [e_exec, e_step] <;> rfl)
theorem x_aload_5r {a0 a1 a2 a3 a4 : Option Value} {t : e_Lv}{x : Nat} : e_exec g k o ((pc, .aload 5, n, tg) :: r) pe (a0 :: a1 :: a2 :: a3 :: a4 :: some (.ref x) :: t) st h J Ψ = e_exec g k o r pe (a0 :: a1 :: a2 :: a3 :: a4 :: some (.ref x) :: t) (.ref x :: st) h J Ψ := by (simp only [e_exec, e_step] <;> rfl)
theorem x_aload_5n {a0 a1 a2 a3 a4 : Option Value} {t : e_Lv} : e_exec g k o ((pc, .aload 5, n, tg) :: r) pe (a0 :: a1 :: a2 :: a3 :: a4 :: some (.null) :: t) st h J Ψ = e_exec g k o r pe (a0 :: a1 :: a2 :: a3 :: a4 :: some (.null) :: t) (.null :: st) h J Ψ := by (simp only [e_exec, e_step] <;> rfl)
theorem x_aload_5q {a0 a1 a2 a3 a4 : Option Value} {t : e_Lv}{x : Option Nat} : e_exec g k o ((pc, .aload 5, n, tg) :: r) pe (a0 :: a1 :: a2 :: a3 :: a4 :: some (va_rf x) :: t) st h J Ψ = e_exec g k o r pe (a0 :: a1 :: a2 :: a3 :: a4 :: some (va_rf x) :: t) (va_rf x :: st) h J Ψ := by (cases x <;> (simp only [e_exec, e_step, va_rf] <;> rfl))
theorem x_iload_6 {a0 a1 a2 a3 a4 a5 : Option Value} {t : e_Lv}{x : Int32} : e_exec g k o ((pc, .iload 6, n, tg) :: r) pe (a0 :: a1 :: a2 :: a3 :: a4 :: a5 :: some (.int x) :: t) st h J Ψ = e_exec g k o r pe (a0 :: a1 :: a2 :: a3 :: a4 :: a5 :: some (.int x) :: t) (.int x :: st) h J Ψ := by (simp only [e_exec, e_step] <;> rfl)
theorem x_lload_6 {a0 a1 a2 a3 a4 a5 : Option Value} {t : e_Lv}{x : Int64} : e_exec g k o ((pc, .lload 6, n, tg) :: r) pe (a0 :: a1 :: a2 :: a3 :: a4 :: a5 :: some (.long x) :: t) st h J Ψ = e_exec g k o r pe (a0 :: a1 :: a2 :: a3 :: a4 :: a5 :: some (.long x) :: t) (.long x :: st) h J Ψ := by (simp only [e_exec, e_step] <;> rfl)
theorem x_aload_6r {a0 a1 a2 a3 a4 a5 : Option Value} {t : e_Lv}{x : Nat} : e_exec g k o ((pc, .aload 6, n, tg) :: r) pe (a0 :: a1 :: a2 :: a3 :: a4 :: a5 :: some (.ref x) :: t) st h J Ψ = e_exec g k o r pe (a0 :: a1 :: a2 :: a3 :: a4 :: a5 :: some (.ref x) :: t) (.ref x :: st) h J Ψ := by (simp only [e_exec, e_step] <;> rfl)
theorem x_aload_6n {a0 a1 a2 a3 a4 a5 : Option Value} {t : e_Lv} : e_exec g k o ((pc, .aload 6, n, tg) :: r) pe (a0 :: a1 :: a2 :: a3 :: a4 :: a5 :: some (.null) :: t) st h J Ψ = e_exec g k o r pe (a0 :: a1 :: a2 :: a3 :: a4 :: a5 :: some (.null) :: t) (.null :: st) h J Ψ := by (simp only [e_exec, e_step] <;> rfl)
theorem x_aload_6q {a0 a1 a2 a3 a4 a5 : Option Value} {t : e_Lv}{x : Option Nat} : e_exec g k o ((pc, .aload 6, n, tg) :: r) pe (a0 :: a1 :: a2 :: a3 :: a4 :: a5 :: some (va_rf x) :: t) st h J Ψ = e_exec g k o r pe (a0 :: a1 :: a2 :: a3 :: a4 :: a5 :: some (va_rf x) :: t) (va_rf x :: st) h J Ψ := by (cases x <;> (simp only [e_exec, e_step, va_rf] <;> rfl))
theorem x_iload_7 {a0 a1 a2 a3 a4 a5 a6 : Option Value} {t : e_Lv}{x : Int32} : e_exec g k o ((pc, .iload 7, n, tg) :: r) pe (a0 :: a1 :: a2 :: a3 :: a4 :: a5 :: a6 :: some (.int x) :: t) st h J Ψ = e_exec g k o r pe (a0 :: a1 :: a2 :: a3 :: a4 :: a5 :: a6 :: some (.int x) :: t) (.int x :: st) h J Ψ := by (simp only [e_exec, e_step] <;> rfl)
theorem x_lload_7 {a0 a1 a2 a3 a4 a5 a6 : Option Value} {t : e_Lv}{x : Int64} : e_exec g k o ((pc, .lload 7, n, tg) :: r) pe (a0 :: a1 :: a2 :: a3 :: a4 :: a5 :: a6 :: some (.long x) :: t) st h J Ψ = e_exec g k o r pe (a0 :: a1 :: a2 :: a3 :: a4 :: a5 :: a6 :: some (.long x) :: t) (.long x :: st) h J Ψ := by (simp only [e_exec, e_step] <;> rfl)
theorem x_aload_7r {a0 a1 a2 a3 a4 a5 a6 : Option Value} {t : e_Lv}{x : Nat} : e_exec g k o ((pc, .aload 7, n, tg) :: r) pe (a0 :: a1 :: a2 :: a3 :: a4 :: a5 :: a6 :: some (.ref x) :: t) st h J Ψ = e_exec g k o r pe (a0 :: a1 :: a2 :: a3 :: a4 :: a5 :: a6 :: some (.ref x) :: t) (.ref x :: st) h J Ψ := by (simp only [e_exec, e_step] <;> rfl)
theorem x_aload_7n {a0 a1 a2 a3 a4 a5 a6 : Option Value} {t : e_Lv} : e_exec g k o ((pc, .aload 7, n, tg) :: r) pe (a0 :: a1 :: a2 :: a3 :: a4 :: a5 :: a6 :: some (.null) :: t) st h J Ψ = e_exec g k o r pe (a0 :: a1 :: a2 :: a3 :: a4 :: a5 :: a6 :: some (.null) :: t) (.null :: st) h J Ψ := by (simp only [e_exec, e_step] <;> rfl)
theorem x_aload_7q {a0 a1 a2 a3 a4 a5 a6 : Option Value} {t : e_Lv}{x : Option Nat} : e_exec g k o ((pc, .aload 7, n, tg) :: r) pe (a0 :: a1 :: a2 :: a3 :: a4 :: a5 :: a6 :: some (va_rf x) :: t) st h J Ψ = e_exec g k o r pe (a0 :: a1 :: a2 :: a3 :: a4 :: a5 :: a6 :: some (va_rf x) :: t) (va_rf x :: st) h J Ψ := by (cases x <;> (simp only [e_exec, e_step, va_rf] <;> rfl))
theorem x_iload_8 {a0 a1 a2 a3 a4 a5 a6 a7 : Option Value} {t : e_Lv}{x : Int32} : e_exec g k o ((pc, .iload 8, n, tg) :: r) pe (a0 :: a1 :: a2 :: a3 :: a4 :: a5 :: a6 :: a7 :: some (.int x) :: t) st h J Ψ = e_exec g k o r pe (a0 :: a1 :: a2 :: a3 :: a4 :: a5 :: a6 :: a7 :: some (.int x) :: t) (.int x :: st) h J Ψ := by (simp only [e_exec, e_step] <;> rfl)
theorem x_lload_8 {a0 a1 a2 a3 a4 a5 a6 a7 : Option Value} {t : e_Lv}{x : Int64} : e_exec g k o ((pc, .lload 8, n, tg) :: r) pe (a0 :: a1 :: a2 :: a3 :: a4 :: a5 :: a6 :: a7 :: some (.long x) :: t) st h J Ψ = e_exec g k o r pe (a0 :: a1 :: a2 :: a3 :: a4 :: a5 :: a6 :: a7 :: some (.long x) :: t) (.long x :: st) h J Ψ := by (simp only [e_exec, e_step] <;> rfl)
theorem x_aload_8r {a0 a1 a2 a3 a4 a5 a6 a7 : Option Value} {t : e_Lv}{x : Nat} : e_exec g k o ((pc, .aload 8, n, tg) :: r) pe (a0 :: a1 :: a2 :: a3 :: a4 :: a5 :: a6 :: a7 :: some (.ref x) :: t) st h J Ψ = e_exec g k o r pe (a0 :: a1 :: a2 :: a3 :: a4 :: a5 :: a6 :: a7 :: some (.ref x) :: t) (.ref x :: st) h J Ψ := by (simp only [e_exec, e_step] <;> rfl)
theorem x_aload_8n {a0 a1 a2 a3 a4 a5 a6 a7 : Option Value} {t : e_Lv} : e_exec g k o ((pc, .aload 8, n, tg) :: r) pe (a0 :: a1 :: a2 :: a3 :: a4 :: a5 :: a6 :: a7 :: some (.null) :: t) st h J Ψ = e_exec g k o r pe (a0 :: a1 :: a2 :: a3 :: a4 :: a5 :: a6 :: a7 :: some (.null) :: t) (.null :: st) h J Ψ := by (simp only [e_exec, e_step] <;> rfl)
theorem x_aload_8q {a0 a1 a2 a3 a4 a5 a6 a7 : Option Value} {t : e_Lv}{x : Option Nat} : e_exec g k o ((pc, .aload 8, n, tg) :: r) pe (a0 :: a1 :: a2 :: a3 :: a4 :: a5 :: a6 :: a7 :: some (va_rf x) :: t) st h J Ψ = e_exec g k o r pe (a0 :: a1 :: a2 :: a3 :: a4 :: a5 :: a6 :: a7 :: some (va_rf x) :: t) (va_rf x :: st) h J Ψ := by (cases x <;> (simp only [e_exec, e_step, va_rf] <;> rfl))
theorem x_iload_9 {a0 a1 a2 a3 a4 a5 a6 a7 a8 : Option Value} {t : e_Lv}{x : Int32} : e_exec g k o ((pc, .iload 9, n, tg) :: r) pe (a0 :: a1 :: a2 :: a3 :: a4 :: a5 :: a6 :: a7 :: a8 :: some (.int x) :: t) st h J Ψ = e_exec g k o r pe (a0 :: a1 :: a2 :: a3 :: a4 :: a5 :: a6 :: a7 :: a8 :: some (.int x) :: t) (.int x :: st) h J Ψ := by (simp only [e_exec, e_step] <;> rfl)
theorem x_lload_9 {a0 a1 a2 a3 a4 a5 a6 a7 a8 : Option Value} {t : e_Lv}{x : Int64} : e_exec g k o ((pc, .lload 9, n, tg) :: r) pe (a0 :: a1 :: a2 :: a3 :: a4 :: a5 :: a6 :: a7 :: a8 :: some (.long x) :: t) st h J Ψ = e_exec g k o r pe (a0 :: a1 :: a2 :: a3 :: a4 :: a5 :: a6 :: a7 :: a8 :: some (.long x) :: t) (.long x :: st) h J Ψ := by (simp only [e_exec, e_step] <;> rfl)
theorem x_aload_9r {a0 a1 a2 a3 a4 a5 a6 a7 a8 : Option Value} {t : e_Lv}{x : Nat} : e_exec g k o ((pc, .aload 9, n, tg) :: r) pe (a0 :: a1 :: a2 :: a3 :: a4 :: a5 :: a6 :: a7 :: a8 :: some (.ref x) :: t) st h J Ψ = e_exec g k o r pe (a0 :: a1 :: a2 :: a3 :: a4 :: a5 :: a6 :: a7 :: a8 :: some (.ref x) :: t) (.ref x :: st) h J Ψ := by (simp only [e_exec, e_step] <;> rfl)
theorem x_aload_9n {a0 a1 a2 a3 a4 a5 a6 a7 a8 : Option Value} {t : e_Lv} : e_exec g k o ((pc, .aload 9, n, tg) :: r) pe (a0 :: a1 :: a2 :: a3 :: a4 :: a5 :: a6 :: a7 :: a8 :: some (.null) :: t) st h J Ψ = e_exec g k o r pe (a0 :: a1 :: a2 :: a3 :: a4 :: a5 :: a6 :: a7 :: a8 :: some (.null) :: t) (.null :: st) h J Ψ := by (simp only [e_exec, e_step] <;> rfl)
theorem x_aload_9q {a0 a1 a2 a3 a4 a5 a6 a7 a8 : Option Value} {t : e_Lv}{x : Option Nat} : e_exec g k o ((pc, .aload 9, n, tg) :: r) pe (a0 :: a1 :: a2 :: a3 :: a4 :: a5 :: a6 :: a7 :: a8 :: some (va_rf x) :: t) st h J Ψ = e_exec g k o r pe (a0 :: a1 :: a2 :: a3 :: a4 :: a5 :: a6 :: a7 :: a8 :: some (va_rf x) :: t) (va_rf x :: st) h J Ψ := by (cases x <;> (simp only [e_exec, e_step, va_rf] <;> rfl))
theorem x_iload_10 {a0 a1 a2 a3 a4 a5 a6 a7 a8 a9 : Option Value} {t : e_Lv}{x : Int32} : e_exec g k o ((pc, .iload 10, n, tg) :: r) pe (a0 :: a1 :: a2 :: a3 :: a4 :: a5 :: a6 :: a7 :: a8 :: a9 :: some (.int x) :: t) st h J Ψ = e_exec g k o r pe (a0 :: a1 :: a2 :: a3 :: a4 :: a5 :: a6 :: a7 :: a8 :: a9 :: some (.int x) :: t) (.int x :: st) h J Ψ := by (simp only [e_exec, e_step] <;> rfl)
theorem x_lload_10 {a0 a1 a2 a3 a4 a5 a6 a7 a8 a9 : Option Value} {t : e_Lv}{x : Int64} : e_exec g k o ((pc, .lload 10, n, tg) :: r) pe (a0 :: a1 :: a2 :: a3 :: a4 :: a5 :: a6 :: a7 :: a8 :: a9 :: some (.long x) :: t) st h J Ψ = e_exec g k o r pe (a0 :: a1 :: a2 :: a3 :: a4 :: a5 :: a6 :: a7 :: a8 :: a9 :: some (.long x) :: t) (.long x :: st) h J Ψ := by (simp only [e_exec, e_step] <;> rfl)
theorem x_aload_10r {a0 a1 a2 a3 a4 a5 a6 a7 a8 a9 : Option Value} {t : e_Lv}{x : Nat} : e_exec g k o ((pc, .aload 10, n, tg) :: r) pe (a0 :: a1 :: a2 :: a3 :: a4 :: a5 :: a6 :: a7 :: a8 :: a9 :: some (.ref x) :: t) st h J Ψ = e_exec g k o r pe (a0 :: a1 :: a2 :: a3 :: a4 :: a5 :: a6 :: a7 :: a8 :: a9 :: some (.ref x) :: t) (.ref x :: st) h J Ψ := by (simp only [e_exec, e_step] <;> rfl)
theorem x_aload_10n {a0 a1 a2 a3 a4 a5 a6 a7 a8 a9 : Option Value} {t : e_Lv} : e_exec g k o ((pc, .aload 10, n, tg) :: r) pe (a0 :: a1 :: a2 :: a3 :: a4 :: a5 :: a6 :: a7 :: a8 :: a9 :: some (.null) :: t) st h J Ψ = e_exec g k o r pe (a0 :: a1 :: a2 :: a3 :: a4 :: a5 :: a6 :: a7 :: a8 :: a9 :: some (.null) :: t) (.null :: st) h J Ψ := by (simp only [e_exec, e_step] <;> rfl)
theorem x_aload_10q {a0 a1 a2 a3 a4 a5 a6 a7 a8 a9 : Option Value} {t : e_Lv}{x : Option Nat} : e_exec g k o ((pc, .aload 10, n, tg) :: r) pe (a0 :: a1 :: a2 :: a3 :: a4 :: a5 :: a6 :: a7 :: a8 :: a9 :: some (va_rf x) :: t) st h J Ψ = e_exec g k o r pe (a0 :: a1 :: a2 :: a3 :: a4 :: a5 :: a6 :: a7 :: a8 :: a9 :: some (va_rf x) :: t) (va_rf x :: st) h J Ψ := by (cases x <;> (simp only [e_exec, e_step, va_rf] <;> rfl))
theorem x_iload_11 {a0 a1 a2 a3 a4 a5 a6 a7 a8 a9 a10 : Option Value} {t : e_Lv}{x : Int32} : e_exec g k o ((pc, .iload 11, n, tg) :: r) pe (a0 :: a1 :: a2 :: a3 :: a4 :: a5 :: a6 :: a7 :: a8 :: a9 :: a10 :: some (.int x) :: t) st h J Ψ = e_exec g k o r pe (a0 :: a1 :: a2 :: a3 :: a4 :: a5 :: a6 :: a7 :: a8 :: a9 :: a10 :: some (.int x) :: t) (.int x :: st) h J Ψ := by (simp only [e_exec, e_step] <;> rfl)
theorem x_lload_11 {a0 a1 a2 a3 a4 a5 a6 a7 a8 a9 a10 : Option Value} {t : e_Lv}{x : Int64} : e_exec g k o ((pc, .lload 11, n, tg) :: r) pe (a0 :: a1 :: a2 :: a3 :: a4 :: a5 :: a6 :: a7 :: a8 :: a9 :: a10 :: some (.long x) :: t) st h J Ψ = e_exec g k o r pe (a0 :: a1 :: a2 :: a3 :: a4 :: a5 :: a6 :: a7 :: a8 :: a9 :: a10 :: some (.long x) :: t) (.long x :: st) h J Ψ := by (simp only [e_exec, e_step] <;> rfl)
theorem x_aload_11r {a0 a1 a2 a3 a4 a5 a6 a7 a8 a9 a10 : Option Value} {t : e_Lv}{x : Nat} : e_exec g k o ((pc, .aload 11, n, tg) :: r) pe (a0 :: a1 :: a2 :: a3 :: a4 :: a5 :: a6 :: a7 :: a8 :: a9 :: a10 :: some (.ref x) :: t) st h J Ψ = e_exec g k o r pe (a0 :: a1 :: a2 :: a3 :: a4 :: a5 :: a6 :: a7 :: a8 :: a9 :: a10 :: some (.ref x) :: t) (.ref x :: st) h J Ψ := by (simp only [e_exec, e_step] <;> rfl)
theorem x_aload_11n {a0 a1 a2 a3 a4 a5 a6 a7 a8 a9 a10 : Option Value} {t : e_Lv} : e_exec g k o ((pc, .aload 11, n, tg) :: r) pe (a0 :: a1 :: a2 :: a3 :: a4 :: a5 :: a6 :: a7 :: a8 :: a9 :: a10 :: some (.null) :: t) st h J Ψ = e_exec g k o r pe (a0 :: a1 :: a2 :: a3 :: a4 :: a5 :: a6 :: a7 :: a8 :: a9 :: a10 :: some (.null) :: t) (.null :: st) h J Ψ := by (simp only [e_exec, e_step] <;> rfl)
theorem x_aload_11q {a0 a1 a2 a3 a4 a5 a6 a7 a8 a9 a10 : Option Value} {t : e_Lv}{x : Option Nat} : e_exec g k o ((pc, .aload 11, n, tg) :: r) pe (a0 :: a1 :: a2 :: a3 :: a4 :: a5 :: a6 :: a7 :: a8 :: a9 :: a10 :: some (va_rf x) :: t) st h J Ψ = e_exec g k o r pe (a0 :: a1 :: a2 :: a3 :: a4 :: a5 :: a6 :: a7 :: a8 :: a9 :: a10 :: some (va_rf x) :: t) (va_rf x :: st) h J Ψ := by (cases x <;> (simp only [e_exec, e_step, va_rf] <;> rfl))
theorem x_iload_12 {a0 a1 a2 a3 a4 a5 a6 a7 a8 a9 a10 a11 : Option Value} {t : e_Lv}{x : Int32} : e_exec g k o ((pc, .iload 12, n, tg) :: r) pe (a0 :: a1 :: a2 :: a3 :: a4 :: a5 :: a6 :: a7 :: a8 :: a9 :: a10 :: a11 :: some (.int x) :: t) st h J Ψ = e_exec g k o r pe (a0 :: a1 :: a2 :: a3 :: a4 :: a5 :: a6 :: a7 :: a8 :: a9 :: a10 :: a11 :: some (.int x) :: t) (.int x :: st) h J Ψ := by (simp only [e_exec, e_step] <;> rfl)
theorem x_lload_12 {a0 a1 a2 a3 a4 a5 a6 a7 a8 a9 a10 a11 : Option Value} {t : e_Lv}{x : Int64} : e_exec g k o ((pc, .lload 12, n, tg) :: r) pe (a0 :: a1 :: a2 :: a3 :: a4 :: a5 :: a6 :: a7 :: a8 :: a9 :: a10 :: a11 :: some (.long x) :: t) st h J Ψ = e_exec g k o r pe (a0 :: a1 :: a2 :: a3 :: a4 :: a5 :: a6 :: a7 :: a8 :: a9 :: a10 :: a11 :: some (.long x) :: t) (.long x :: st) h J Ψ := by (simp only [e_exec, e_step] <;> rfl)
theorem x_aload_12r {a0 a1 a2 a3 a4 a5 a6 a7 a8 a9 a10 a11 : Option Value} {t : e_Lv}{x : Nat} : e_exec g k o ((pc, .aload 12, n, tg) :: r) pe (a0 :: a1 :: a2 :: a3 :: a4 :: a5 :: a6 :: a7 :: a8 :: a9 :: a10 :: a11 :: some (.ref x) :: t) st h J Ψ = e_exec g k o r pe (a0 :: a1 :: a2 :: a3 :: a4 :: a5 :: a6 :: a7 :: a8 :: a9 :: a10 :: a11 :: some (.ref x) :: t) (.ref x :: st) h J Ψ := by (simp only [e_exec, e_step] <;> rfl)
theorem x_aload_12n {a0 a1 a2 a3 a4 a5 a6 a7 a8 a9 a10 a11 : Option Value} {t : e_Lv} : e_exec g k o ((pc, .aload 12, n, tg) :: r) pe (a0 :: a1 :: a2 :: a3 :: a4 :: a5 :: a6 :: a7 :: a8 :: a9 :: a10 :: a11 :: some (.null) :: t) st h J Ψ = e_exec g k o r pe (a0 :: a1 :: a2 :: a3 :: a4 :: a5 :: a6 :: a7 :: a8 :: a9 :: a10 :: a11 :: some (.null) :: t) (.null :: st) h J Ψ := by (simp only [e_exec, e_step] <;> rfl)
theorem x_aload_12q {a0 a1 a2 a3 a4 a5 a6 a7 a8 a9 a10 a11 : Option Value} {t : e_Lv}{x : Option Nat} : e_exec g k o ((pc, .aload 12, n, tg) :: r) pe (a0 :: a1 :: a2 :: a3 :: a4 :: a5 :: a6 :: a7 :: a8 :: a9 :: a10 :: a11 :: some (va_rf x) :: t) st h J Ψ = e_exec g k o r pe (a0 :: a1 :: a2 :: a3 :: a4 :: a5 :: a6 :: a7 :: a8 :: a9 :: a10 :: a11 :: some (va_rf x) :: t) (va_rf x :: st) h J Ψ := by (cases x <;> (simp only [e_exec, e_step, va_rf] <;> rfl))
theorem x_iload_13 {a0 a1 a2 a3 a4 a5 a6 a7 a8 a9 a10 a11 a12 : Option Value} {t : e_Lv}{x : Int32} : e_exec g k o ((pc, .iload 13, n, tg) :: r) pe (a0 :: a1 :: a2 :: a3 :: a4 :: a5 :: a6 :: a7 :: a8 :: a9 :: a10 :: a11 :: a12 :: some (.int x) :: t) st h J Ψ = e_exec g k o r pe (a0 :: a1 :: a2 :: a3 :: a4 :: a5 :: a6 :: a7 :: a8 :: a9 :: a10 :: a11 :: a12 :: some (.int x) :: t) (.int x :: st) h J Ψ := by (simp only [e_exec, e_step] <;> rfl)
theorem x_aload_13r {a0 a1 a2 a3 a4 a5 a6 a7 a8 a9 a10 a11 a12 : Option Value} {t : e_Lv}{x : Nat} : e_exec g k o ((pc, .aload 13, n, tg) :: r) pe (a0 :: a1 :: a2 :: a3 :: a4 :: a5 :: a6 :: a7 :: a8 :: a9 :: a10 :: a11 :: a12 :: some (.ref x) :: t) st h J Ψ = e_exec g k o r pe (a0 :: a1 :: a2 :: a3 :: a4 :: a5 :: a6 :: a7 :: a8 :: a9 :: a10 :: a11 :: a12 :: some (.ref x) :: t) (.ref x :: st) h J Ψ := by (simp only [e_exec, e_step] <;> rfl)
theorem x_aload_13n {a0 a1 a2 a3 a4 a5 a6 a7 a8 a9 a10 a11 a12 : Option Value} {t : e_Lv} : e_exec g k o ((pc, .aload 13, n, tg) :: r) pe (a0 :: a1 :: a2 :: a3 :: a4 :: a5 :: a6 :: a7 :: a8 :: a9 :: a10 :: a11 :: a12 :: some (.null) :: t) st h J Ψ = e_exec g k o r pe (a0 :: a1 :: a2 :: a3 :: a4 :: a5 :: a6 :: a7 :: a8 :: a9 :: a10 :: a11 :: a12 :: some (.null) :: t) (.null :: st) h J Ψ := by (simp only [e_exec, e_step] <;> rfl)
theorem x_aload_13q {a0 a1 a2 a3 a4 a5 a6 a7 a8 a9 a10 a11 a12 : Option Value} {t : e_Lv}{x : Option Nat} : e_exec g k o ((pc, .aload 13, n, tg) :: r) pe (a0 :: a1 :: a2 :: a3 :: a4 :: a5 :: a6 :: a7 :: a8 :: a9 :: a10 :: a11 :: a12 :: some (va_rf x) :: t) st h J Ψ = e_exec g k o r pe (a0 :: a1 :: a2 :: a3 :: a4 :: a5 :: a6 :: a7 :: a8 :: a9 :: a10 :: a11 :: a12 :: some (va_rf x) :: t) (va_rf x :: st) h J Ψ := by (cases x <;> (simp only [e_exec, e_step, va_rf] <;> rfl))
theorem x_iload_14 {a0 a1 a2 a3 a4 a5 a6 a7 a8 a9 a10 a11 a12 a13 : Option Value} {t : e_Lv}{x : Int32} : e_exec g k o ((pc, .iload 14, n, tg) :: r) pe (a0 :: a1 :: a2 :: a3 :: a4 :: a5 :: a6 :: a7 :: a8 :: a9 :: a10 :: a11 :: a12 :: a13 :: some (.int x) :: t) st h J Ψ = e_exec g k o r pe (a0 :: a1 :: a2 :: a3 :: a4 :: a5 :: a6 :: a7 :: a8 :: a9 :: a10 :: a11 :: a12 :: a13 :: some (.int x) :: t) (.int x :: st) h J Ψ := by (simp only [e_exec, e_step] <;> rfl)
theorem x_aload_14r {a0 a1 a2 a3 a4 a5 a6 a7 a8 a9 a10 a11 a12 a13 : Option Value} {t : e_Lv}{x : Nat} : e_exec g k o ((pc, .aload 14, n, tg) :: r) pe (a0 :: a1 :: a2 :: a3 :: a4 :: a5 :: a6 :: a7 :: a8 :: a9 :: a10 :: a11 :: a12 :: a13 :: some (.ref x) :: t) st h J Ψ = e_exec g k o r pe (a0 :: a1 :: a2 :: a3 :: a4 :: a5 :: a6 :: a7 :: a8 :: a9 :: a10 :: a11 :: a12 :: a13 :: some (.ref x) :: t) (.ref x :: st) h J Ψ := by (simp only [e_exec, e_step] <;> rfl)
theorem x_aload_14n {a0 a1 a2 a3 a4 a5 a6 a7 a8 a9 a10 a11 a12 a13 : Option Value} {t : e_Lv} : e_exec g k o ((pc, .aload 14, n, tg) :: r) pe (a0 :: a1 :: a2 :: a3 :: a4 :: a5 :: a6 :: a7 :: a8 :: a9 :: a10 :: a11 :: a12 :: a13 :: some (.null) :: t) st h J Ψ = e_exec g k o r pe (a0 :: a1 :: a2 :: a3 :: a4 :: a5 :: a6 :: a7 :: a8 :: a9 :: a10 :: a11 :: a12 :: a13 :: some (.null) :: t) (.null :: st) h J Ψ := by (simp only [e_exec, e_step] <;> rfl)
theorem x_aload_14q {a0 a1 a2 a3 a4 a5 a6 a7 a8 a9 a10 a11 a12 a13 : Option Value} {t : e_Lv}{x : Option Nat} : e_exec g k o ((pc, .aload 14, n, tg) :: r) pe (a0 :: a1 :: a2 :: a3 :: a4 :: a5 :: a6 :: a7 :: a8 :: a9 :: a10 :: a11 :: a12 :: a13 :: some (va_rf x) :: t) st h J Ψ = e_exec g k o r pe (a0 :: a1 :: a2 :: a3 :: a4 :: a5 :: a6 :: a7 :: a8 :: a9 :: a10 :: a11 :: a12 :: a13 :: some (va_rf x) :: t) (va_rf x :: st) h J Ψ := by (cases x <;> (simp only [e_exec, e_step, va_rf] <;> rfl))
theorem x_iload_15 {a0 a1 a2 a3 a4 a5 a6 a7 a8 a9 a10 a11 a12 a13 a14 : Option Value} {t : e_Lv}{x : Int32} : e_exec g k o ((pc, .iload 15, n, tg) :: r) pe (a0 :: a1 :: a2 :: a3 :: a4 :: a5 :: a6 :: a7 :: a8 :: a9 :: a10 :: a11 :: a12 :: a13 :: a14 :: some (.int x) :: t) st h J Ψ = e_exec g k o r pe (a0 :: a1 :: a2 :: a3 :: a4 :: a5 :: a6 :: a7 :: a8 :: a9 :: a10 :: a11 :: a12 :: a13 :: a14 :: some (.int x) :: t) (.int x :: st) h J Ψ := by (simp only [e_exec, e_step] <;> rfl)
theorem x_aload_15r {a0 a1 a2 a3 a4 a5 a6 a7 a8 a9 a10 a11 a12 a13 a14 : Option Value} {t : e_Lv}{x : Nat} : e_exec g k o ((pc, .aload 15, n, tg) :: r) pe (a0 :: a1 :: a2 :: a3 :: a4 :: a5 :: a6 :: a7 :: a8 :: a9 :: a10 :: a11 :: a12 :: a13 :: a14 :: some (.ref x) :: t) st h J Ψ = e_exec g k o r pe (a0 :: a1 :: a2 :: a3 :: a4 :: a5 :: a6 :: a7 :: a8 :: a9 :: a10 :: a11 :: a12 :: a13 :: a14 :: some (.ref x) :: t) (.ref x :: st) h J Ψ := by (simp only [e_exec, e_step] <;> rfl)
theorem x_aload_15n {a0 a1 a2 a3 a4 a5 a6 a7 a8 a9 a10 a11 a12 a13 a14 : Option Value} {t : e_Lv} : e_exec g k o ((pc, .aload 15, n, tg) :: r) pe (a0 :: a1 :: a2 :: a3 :: a4 :: a5 :: a6 :: a7 :: a8 :: a9 :: a10 :: a11 :: a12 :: a13 :: a14 :: some (.null) :: t) st h J Ψ = e_exec g k o r pe (a0 :: a1 :: a2 :: a3 :: a4 :: a5 :: a6 :: a7 :: a8 :: a9 :: a10 :: a11 :: a12 :: a13 :: a14 :: some (.null) :: t) (.null :: st) h J Ψ := by (simp only [e_exec, e_step] <;> rfl)
theorem x_aload_15q {a0 a1 a2 a3 a4 a5 a6 a7 a8 a9 a10 a11 a12 a13 a14 : Option Value} {t : e_Lv}{x : Option Nat} : e_exec g k o ((pc, .aload 15, n, tg) :: r) pe (a0 :: a1 :: a2 :: a3 :: a4 :: a5 :: a6 :: a7 :: a8 :: a9 :: a10 :: a11 :: a12 :: a13 :: a14 :: some (va_rf x) :: t) st h J Ψ = e_exec g k o r pe (a0 :: a1 :: a2 :: a3 :: a4 :: a5 :: a6 :: a7 :: a8 :: a9 :: a10 :: a11 :: a12 :: a13 :: a14 :: some (va_rf x) :: t) (va_rf x :: st) h J Ψ := by (cases x <;> (simp only [e_exec, e_step, va_rf] <;> rfl))
theorem x_cl_i {x : Int32} : e_cl (some (.int x)) = some (.int x) := id rfl
theorem x_cl_r {x : Nat} : e_cl (some (.ref x)) = some (.ref x) := id rfl
theorem x_cl_n : e_cl (some .null) = some .null := id rfl
theorem x_cl_q {x : Option Nat} : e_cl (some (va_rf x)) = some (va_rf x) := by cases x <;> rfl
theorem x_cl_0 : e_cl none = none := id rfl
theorem x_cl_l {x : Int64} : e_cl (some (.long x)) = none := id rfl
theorem x_istore_0 {a0 : Option Value} {t : e_Lv}{x : Int32} : e_exec g k o ((pc, .istore_n 0, n, tg) :: r) pe (a0 :: t) (.int x :: st) h J Ψ = e_exec g k o r pe (some (.int x) :: t) st h J Ψ := by (simp only [e_exec, e_step, e_p1i, e_p1a, e_p1l, e_sto, e_sto2, e_st2, e_st1]; exact propext ⟨fun q => q.2, fun q => ⟨by (first | (simp; done) | (simp only [List.length_cons]; show (_ : Nat) < _; omega) | (show (3 : Nat) < _; simp only [List.length_cons]; omega)), q⟩⟩)
theorem x_astore_0r {a0 : Option Value} {t : e_Lv}{x : Nat} : e_exec g k o ((pc, .astore_n 0, n, tg) :: r) pe (a0 :: t) (.ref x :: st) h J Ψ = e_exec g k o r pe (some (.ref x) :: t) st h J Ψ := by (simp only [e_exec, e_step, e_p1i, e_p1a, e_p1l, e_sto, e_sto2, e_st2, e_st1]; exact propext ⟨fun q => q.2, fun q => ⟨by (first | (simp; done) | (simp only [List.length_cons]; show (_ : Nat) < _; omega) | (show (3 : Nat) < _; simp only [List.length_cons]; omega)), q⟩⟩)
theorem x_astore_0n {a0 : Option Value} {t : e_Lv} : e_exec g k o ((pc, .astore_n 0, n, tg) :: r) pe (a0 :: t) (.null :: st) h J Ψ = e_exec g k o r pe (some (.null) :: t) st h J Ψ := by (simp only [e_exec, e_step, e_p1i, e_p1a, e_p1l, e_sto, e_sto2, e_st2, e_st1]; exact propext ⟨fun q => q.2, fun q => ⟨by (first | (simp; done) | (simp only [List.length_cons]; show (_ : Nat) < _; omega) | (show (3 : Nat) < _; simp only [List.length_cons]; omega)), q⟩⟩)
theorem x_astore_0q {a0 : Option Value} {t : e_Lv}{x : Option Nat} : e_exec g k o ((pc, .astore_n 0, n, tg) :: r) pe (a0 :: t) (va_rf x :: st) h J Ψ = e_exec g k o r pe (some (va_rf x) :: t) st h J Ψ := by (cases x <;> (simp only [e_exec, e_step, e_p1i, e_p1a, e_p1l, va_rf, e_sto, e_sto2, e_st2, e_st1]; exact propext ⟨fun q => q.2, fun q => ⟨by (first | (simp; done) | (simp only [List.length_cons]; show (_ : Nat) < _; omega) | (show (3 : Nat) < _; simp only [List.length_cons]; omega)), q⟩⟩))
theorem x_lstore_0 {a0 a1 : Option Value} {t : e_Lv}{x : Int64} : e_exec g k o ((pc, .lstore_n 0, n, tg) :: r) pe (a0 :: a1 :: t) (.long x :: st) h J Ψ = e_exec g k o r pe (some (.long x) :: none :: t) st h J Ψ := by (simp only [e_exec, e_step, e_p1i, e_p1a, e_p1l, e_sto, e_sto2, e_st2, e_st1]; exact propext ⟨fun q => q.2, fun q => ⟨by (first | (simp; done) | (simp only [List.length_cons]; show (_ : Nat) < _; omega) | (show (3 : Nat) < _; simp only [List.length_cons]; omega)), q⟩⟩)
theorem x_istore_1 {a0 a1 : Option Value} {t : e_Lv}{x : Int32} : e_exec g k o ((pc, .istore_n 1, n, tg) :: r) pe (a0 :: a1 :: t) (.int x :: st) h J Ψ = e_exec g k o r pe (e_cl a0 :: some (.int x) :: t) st h J Ψ := by (simp only [e_exec, e_step, e_p1i, e_p1a, e_p1l, e_sto, e_sto2, e_st2, e_st1]; exact propext ⟨fun q => q.2, fun q => ⟨by (first | (simp; done) | (simp only [List.length_cons]; show (_ : Nat) < _; omega) | (show (3 : Nat) < _; simp only [List.length_cons]; omega)), q⟩⟩)
theorem x_astore_1r {a0 a1 : Option Value} {t : e_Lv}{x : Nat} : e_exec g k o ((pc, .astore_n 1, n, tg) :: r) pe (a0 :: a1 :: t) (.ref x :: st) h J Ψ = e_exec g k o r pe (e_cl a0 :: some (.ref x) :: t) st h J Ψ := by (simp only [e_exec, e_step, e_p1i, e_p1a, e_p1l, e_sto, e_sto2, e_st2, e_st1]; exact propext ⟨fun q => q.2, fun q => ⟨by (first | (simp; done) | (simp only [List.length_cons]; show (_ : Nat) < _; omega) | (show (3 : Nat) < _; simp only [List.length_cons]; omega)), q⟩⟩)
theorem x_astore_1n {a0 a1 : Option Value} {t : e_Lv} : e_exec g k o ((pc, .astore_n 1, n, tg) :: r) pe (a0 :: a1 :: t) (.null :: st) h J Ψ = e_exec g k o r pe (e_cl a0 :: some (.null) :: t) st h J Ψ := by (simp only [e_exec, e_step, e_p1i, e_p1a, e_p1l, e_sto, e_sto2, e_st2, e_st1]; exact propext ⟨fun q => q.2, fun q => ⟨by (first | (simp; done) | (simp only [List.length_cons]; show (_ : Nat) < _; omega) | (show (3 : Nat) < _; simp only [List.length_cons]; omega)), q⟩⟩)
theorem x_astore_1q {a0 a1 : Option Value} {t : e_Lv}{x : Option Nat} : e_exec g k o ((pc, .astore_n 1, n, tg) :: r) pe (a0 :: a1 :: t) (va_rf x :: st) h J Ψ = e_exec g k o r pe (e_cl a0 :: some (va_rf x) :: t) st h J Ψ := by (cases x <;> (simp only [e_exec, e_step, e_p1i, e_p1a, e_p1l, va_rf, e_sto, e_sto2, e_st2, e_st1]; exact propext ⟨fun q => q.2, fun q => ⟨by (first | (simp; done) | (simp only [List.length_cons]; show (_ : Nat) < _; omega) | (show (3 : Nat) < _; simp only [List.length_cons]; omega)), q⟩⟩))
theorem x_lstore_1 {a0 a1 a2 : Option Value} {t : e_Lv}{x : Int64} : e_exec g k o ((pc, .lstore_n 1, n, tg) :: r) pe (a0 :: a1 :: a2 :: t) (.long x :: st) h J Ψ = e_exec g k o r pe (e_cl a0 :: some (.long x) :: none :: t) st h J Ψ := by (simp only [e_exec, e_step, e_p1i, e_p1a, e_p1l, e_sto, e_sto2, e_st2, e_st1]; exact propext ⟨fun q => q.2, fun q => ⟨by (first | (simp; done) | (simp only [List.length_cons]; show (_ : Nat) < _; omega) | (show (3 : Nat) < _; simp only [List.length_cons]; omega)), q⟩⟩)
theorem x_istore_2 {a0 a1 a2 : Option Value} {t : e_Lv}{x : Int32} : e_exec g k o ((pc, .istore_n 2, n, tg) :: r) pe (a0 :: a1 :: a2 :: t) (.int x :: st) h J Ψ = e_exec g k o r pe (a0 :: e_cl a1 :: some (.int x) :: t) st h J Ψ := by (simp only [e_exec, e_step, e_p1i, e_p1a, e_p1l, e_sto, e_sto2, e_st2, e_st1]; exact propext ⟨fun q => q.2, fun q => ⟨by (first | (simp; done) | (simp only [List.length_cons]; show (_ : Nat) < _; omega) | (show (3 : Nat) < _; simp only [List.length_cons]; omega)), q⟩⟩)
theorem x_astore_2r {a0 a1 a2 : Option Value} {t : e_Lv}{x : Nat} : e_exec g k o ((pc, .astore_n 2, n, tg) :: r) pe (a0 :: a1 :: a2 :: t) (.ref x :: st) h J Ψ = e_exec g k o r pe (a0 :: e_cl a1 :: some (.ref x) :: t) st h J Ψ := by (simp only [e_exec, e_step, e_p1i, e_p1a, e_p1l, e_sto, e_sto2, e_st2, e_st1]; exact propext ⟨fun q => q.2, fun q => ⟨by (first | (simp; done) | (simp only [List.length_cons]; show (_ : Nat) < _; omega) | (show (3 : Nat) < _; simp only [List.length_cons]; omega)), q⟩⟩)
theorem x_astore_2n {a0 a1 a2 : Option Value} {t : e_Lv} : e_exec g k o ((pc, .astore_n 2, n, tg) :: r) pe (a0 :: a1 :: a2 :: t) (.null :: st) h J Ψ = e_exec g k o r pe (a0 :: e_cl a1 :: some (.null) :: t) st h J Ψ := by (simp only [e_exec, e_step, e_p1i, e_p1a, e_p1l, e_sto, e_sto2, e_st2, e_st1]; exact propext ⟨fun q => q.2, fun q => ⟨by (first | (simp; done) | (simp only [List.length_cons]; show (_ : Nat) < _; omega) | (show (3 : Nat) < _; simp only [List.length_cons]; omega)), q⟩⟩)
theorem x_astore_2q {a0 a1 a2 : Option Value} {t : e_Lv}{x : Option Nat} : e_exec g k o ((pc, .astore_n 2, n, tg) :: r) pe (a0 :: a1 :: a2 :: t) (va_rf x :: st) h J Ψ = e_exec g k o r pe (a0 :: e_cl a1 :: some (va_rf x) :: t) st h J Ψ := by (cases x <;> (simp only [e_exec, e_step, e_p1i, e_p1a, e_p1l, va_rf, e_sto, e_sto2, e_st2, e_st1]; exact propext ⟨fun q => q.2, fun q => ⟨by (first | (simp; done) | (simp only [List.length_cons]; show (_ : Nat) < _; omega) | (show (3 : Nat) < _; simp only [List.length_cons]; omega)), q⟩⟩))
theorem x_lstore_2 {a0 a1 a2 a3 : Option Value} {t : e_Lv}{x : Int64} : e_exec g k o ((pc, .lstore_n 2, n, tg) :: r) pe (a0 :: a1 :: a2 :: a3 :: t) (.long x :: st) h J Ψ = e_exec g k o r pe (a0 :: e_cl a1 :: some (.long x) :: none :: t) st h J Ψ := by (simp only [e_exec, e_step, e_p1i, e_p1a, e_p1l, e_sto, e_sto2, e_st2, e_st1]; exact propext ⟨fun q => q.2, fun q => ⟨by (first | (simp; done) | (simp only [List.length_cons]; show (_ : Nat) < _; omega) | (show (3 : Nat) < _; simp only [List.length_cons]; omega)), q⟩⟩)
theorem x_istore_3 {a0 a1 a2 a3 : Option Value} {t : e_Lv}{x : Int32} : e_exec g k o ((pc, .istore_n 3, n, tg) :: r) pe (a0 :: a1 :: a2 :: a3 :: t) (.int x :: st) h J Ψ = e_exec g k o r pe (a0 :: a1 :: e_cl a2 :: some (.int x) :: t) st h J Ψ := by (simp only [e_exec, e_step, e_p1i, e_p1a, e_p1l, e_sto, e_sto2, e_st2, e_st1]; exact propext ⟨fun q => q.2, fun q => ⟨by (first | (simp; done) | (simp only [List.length_cons]; show (_ : Nat) < _; omega) | (show (3 : Nat) < _; simp only [List.length_cons]; omega)), q⟩⟩)
theorem x_astore_3r {a0 a1 a2 a3 : Option Value} {t : e_Lv}{x : Nat} : e_exec g k o ((pc, .astore_n 3, n, tg) :: r) pe (a0 :: a1 :: a2 :: a3 :: t) (.ref x :: st) h J Ψ = e_exec g k o r pe (a0 :: a1 :: e_cl a2 :: some (.ref x) :: t) st h J Ψ := by (simp only [e_exec, e_step, e_p1i, e_p1a, e_p1l, e_sto, e_sto2, e_st2, e_st1]; exact propext ⟨fun q => q.2, fun q => ⟨by (first | (simp; done) | (simp only [List.length_cons]; show (_ : Nat) < _; omega) | (show (3 : Nat) < _; simp only [List.length_cons]; omega)), q⟩⟩)
theorem x_astore_3n {a0 a1 a2 a3 : Option Value} {t : e_Lv} : e_exec g k o ((pc, .astore_n 3, n, tg) :: r) pe (a0 :: a1 :: a2 :: a3 :: t) (.null :: st) h J Ψ = e_exec g k o r pe (a0 :: a1 :: e_cl a2 :: some (.null) :: t) st h J Ψ := by (simp only [e_exec, e_step, e_p1i, e_p1a, e_p1l, e_sto, e_sto2, e_st2, e_st1]; exact propext ⟨fun q => q.2, fun q => ⟨by (first | (simp; done) | (simp only [List.length_cons]; show (_ : Nat) < _; omega) | (show (3 : Nat) < _; simp only [List.length_cons]; omega)), q⟩⟩)
theorem x_astore_3q {a0 a1 a2 a3 : Option Value} {t : e_Lv}{x : Option Nat} : e_exec g k o ((pc, .astore_n 3, n, tg) :: r) pe (a0 :: a1 :: a2 :: a3 :: t) (va_rf x :: st) h J Ψ = e_exec g k o r pe (a0 :: a1 :: e_cl a2 :: some (va_rf x) :: t) st h J Ψ := by (cases x <;> (simp only [e_exec, e_step, e_p1i, e_p1a, e_p1l, va_rf, e_sto, e_sto2, e_st2, e_st1]; exact propext ⟨fun q => q.2, fun q => ⟨by (first | (simp; done) | (simp only [List.length_cons]; show (_ : Nat) < _; omega) | (show (3 : Nat) < _; simp only [List.length_cons]; omega)), q⟩⟩))
theorem x_lstore_3 {a0 a1 a2 a3 a4 : Option Value} {t : e_Lv}{x : Int64} : e_exec g k o ((pc, .lstore_n 3, n, tg) :: r) pe (a0 :: a1 :: a2 :: a3 :: a4 :: t) (.long x :: st) h J Ψ = e_exec g k o r pe (a0 :: a1 :: e_cl a2 :: some (.long x) :: none :: t) st h J Ψ := by (simp only [e_exec, e_step, e_p1i, e_p1a, e_p1l, e_sto, e_sto2, e_st2, e_st1]; exact propext ⟨fun q => q.2, fun q => ⟨by (first | (simp; done) | (simp only [List.length_cons]; show (_ : Nat) < _; omega) | (show (3 : Nat) < _; simp only [List.length_cons]; omega)), q⟩⟩)
theorem x_istore_4 {a0 a1 a2 a3 a4 : Option Value} {t : e_Lv}{x : Int32} : e_exec g k o ((pc, .istore 4, n, tg) :: r) pe (a0 :: a1 :: a2 :: a3 :: a4 :: t) (.int x :: st) h J Ψ = e_exec g k o r pe (a0 :: a1 :: a2 :: e_cl a3 :: some (.int x) :: t) st h J Ψ := by (simp only [e_exec, e_step, e_p1i, e_p1a, e_p1l, e_sto, e_sto2, e_st2, e_st1]; exact propext ⟨fun q => q.2, fun q => ⟨by (first | (simp; done) | (simp only [List.length_cons]; show (_ : Nat) < _; omega) | (show (3 : Nat) < _; simp only [List.length_cons]; omega)), q⟩⟩)
theorem x_astore_4r {a0 a1 a2 a3 a4 : Option Value} {t : e_Lv}{x : Nat} : e_exec g k o ((pc, .astore 4, n, tg) :: r) pe (a0 :: a1 :: a2 :: a3 :: a4 :: t) (.ref x :: st) h J Ψ = e_exec g k o r pe (a0 :: a1 :: a2 :: e_cl a3 :: some (.ref x) :: t) st h J Ψ := by (simp only [e_exec, e_step, e_p1i, e_p1a, e_p1l, e_sto, e_sto2, e_st2, e_st1]; exact propext ⟨fun q => q.2, fun q => ⟨by (first | (simp; done) | (simp only [List.length_cons]; show (_ : Nat) < _; omega) | (show (3 : Nat) < _; simp only [List.length_cons]; omega)), q⟩⟩)
theorem x_astore_4n {a0 a1 a2 a3 a4 : Option Value} {t : e_Lv} : e_exec g k o ((pc, .astore 4, n, tg) :: r) pe (a0 :: a1 :: a2 :: a3 :: a4 :: t) (.null :: st) h J Ψ = e_exec g k o r pe (a0 :: a1 :: a2 :: e_cl a3 :: some (.null) :: t) st h J Ψ := by (simp only [e_exec, e_step, e_p1i, e_p1a, e_p1l, e_sto, e_sto2, e_st2, e_st1]; exact propext ⟨fun q => q.2, fun q => ⟨by (first | (simp; done) | (simp only [List.length_cons]; show (_ : Nat) < _; omega) | (show (3 : Nat) < _; simp only [List.length_cons]; omega)), q⟩⟩)
theorem x_astore_4q {a0 a1 a2 a3 a4 : Option Value} {t : e_Lv}{x : Option Nat} : e_exec g k o ((pc, .astore 4, n, tg) :: r) pe (a0 :: a1 :: a2 :: a3 :: a4 :: t) (va_rf x :: st) h J Ψ = e_exec g k o r pe (a0 :: a1 :: a2 :: e_cl a3 :: some (va_rf x) :: t) st h J Ψ := by (cases x <;> (simp only [e_exec, e_step, e_p1i, e_p1a, e_p1l, va_rf, e_sto, e_sto2, e_st2, e_st1]; exact propext ⟨fun q => q.2, fun q => ⟨by (first | (simp; done) | (simp only [List.length_cons]; show (_ : Nat) < _; omega) | (show (3 : Nat) < _; simp only [List.length_cons]; omega)), q⟩⟩))
theorem x_lstore_4 {a0 a1 a2 a3 a4 a5 : Option Value} {t : e_Lv}{x : Int64} : e_exec g k o ((pc, .lstore 4, n, tg) :: r) pe (a0 :: a1 :: a2 :: a3 :: a4 :: a5 :: t) (.long x :: st) h J Ψ = e_exec g k o r pe (a0 :: a1 :: a2 :: e_cl a3 :: some (.long x) :: none :: t) st h J Ψ := by (simp only [e_exec, e_step, e_p1i, e_p1a, e_p1l, e_sto, e_sto2, e_st2, e_st1]; exact propext ⟨fun q => q.2, fun q => ⟨by (first | (simp; done) | (simp only [List.length_cons]; show (_ : Nat) < _; omega) | (show (3 : Nat) < _; simp only [List.length_cons]; omega)), q⟩⟩)
theorem x_istore_5 {a0 a1 a2 a3 a4 a5 : Option Value} {t : e_Lv}{x : Int32} : e_exec g k o ((pc, .istore 5, n, tg) :: r) pe (a0 :: a1 :: a2 :: a3 :: a4 :: a5 :: t) (.int x :: st) h J Ψ = e_exec g k o r pe (a0 :: a1 :: a2 :: a3 :: e_cl a4 :: some (.int x) :: t) st h J Ψ := by (simp only [e_exec, e_step, e_p1i, e_p1a, e_p1l, e_sto, e_sto2, e_st2, e_st1]; exact propext ⟨fun q => q.2, fun q => ⟨by (first | (simp; done) | (simp only [List.length_cons]; show (_ : Nat) < _; omega) | (show (3 : Nat) < _; simp only [List.length_cons]; omega)), q⟩⟩)
theorem x_astore_5r {a0 a1 a2 a3 a4 a5 : Option Value} {t : e_Lv}{x : Nat} : e_exec g k o ((pc, .astore 5, n, tg) :: r) pe (a0 :: a1 :: a2 :: a3 :: a4 :: a5 :: t) (.ref x :: st) h J Ψ = e_exec g k o r pe (a0 :: a1 :: a2 :: a3 :: e_cl a4 :: some (.ref x) :: t) st h J Ψ := by (simp only [e_exec, e_step, e_p1i, e_p1a, e_p1l, e_sto, e_sto2, e_st2, e_st1]; exact propext ⟨fun q => q.2, fun q => ⟨by (first | (simp; done) | (simp only [List.length_cons]; show (_ : Nat) < _; omega) | (show (3 : Nat) < _; simp only [List.length_cons]; omega)), q⟩⟩)
theorem x_astore_5n {a0 a1 a2 a3 a4 a5 : Option Value} {t : e_Lv} : e_exec g k o ((pc, .astore 5, n, tg) :: r) pe (a0 :: a1 :: a2 :: a3 :: a4 :: a5 :: t) (.null :: st) h J Ψ = e_exec g k o r pe (a0 :: a1 :: a2 :: a3 :: e_cl a4 :: some (.null) :: t) st h J Ψ := by (simp only [e_exec, e_step, e_p1i, e_p1a, e_p1l, e_sto, e_sto2, e_st2, e_st1]; exact propext ⟨fun q => q.2, fun q => ⟨by (first | (simp; done) | (simp only [List.length_cons]; show (_ : Nat) < _; omega) | (show (3 : Nat) < _; simp only [List.length_cons]; omega)), q⟩⟩)
theorem x_astore_5q {a0 a1 a2 a3 a4 a5 : Option Value} {t : e_Lv}{x : Option Nat} : e_exec g k o ((pc, .astore 5, n, tg) :: r) pe (a0 :: a1 :: a2 :: a3 :: a4 :: a5 :: t) (va_rf x :: st) h J Ψ = e_exec g k o r pe (a0 :: a1 :: a2 :: a3 :: e_cl a4 :: some (va_rf x) :: t) st h J Ψ := by (cases x <;> (simp only [e_exec, e_step, e_p1i, e_p1a, e_p1l, va_rf, e_sto, e_sto2, e_st2, e_st1]; exact propext ⟨fun q => q.2, fun q => ⟨by (first | (simp; done) | (simp only [List.length_cons]; show (_ : Nat) < _; omega) | (show (3 : Nat) < _; simp only [List.length_cons]; omega)), q⟩⟩))
theorem x_lstore_5 {a0 a1 a2 a3 a4 a5 a6 : Option Value} {t : e_Lv}{x : Int64} : e_exec g k o ((pc, .lstore 5, n, tg) :: r) pe (a0 :: a1 :: a2 :: a3 :: a4 :: a5 :: a6 :: t) (.long x :: st) h J Ψ = e_exec g k o r pe (a0 :: a1 :: a2 :: a3 :: e_cl a4 :: some (.long x) :: none :: t) st h J Ψ := by (simp only [e_exec, e_step, e_p1i, e_p1a, e_p1l, e_sto, e_sto2, e_st2, e_st1]; exact propext ⟨fun q => q.2, fun q => ⟨by (first | (simp; done) | (simp only [List.length_cons]; show (_ : Nat) < _; omega) | (show (3 : Nat) < _; simp only [List.length_cons]; omega)), q⟩⟩)
theorem x_istore_6 {a0 a1 a2 a3 a4 a5 a6 : Option Value} {t : e_Lv}{x : Int32} : e_exec g k o ((pc, .istore 6, n, tg) :: r) pe (a0 :: a1 :: a2 :: a3 :: a4 :: a5 :: a6 :: t) (.int x :: st) h J Ψ = e_exec g k o r pe (a0 :: a1 :: a2 :: a3 :: a4 :: e_cl a5 :: some (.int x) :: t) st h J Ψ := by (simp only [e_exec, e_step, e_p1i, e_p1a, e_p1l, e_sto, e_sto2, e_st2, e_st1]; exact propext ⟨fun q => q.2, fun q => ⟨by (first | (simp; done) | (simp only [List.length_cons]; show (_ : Nat) < _; omega) | (show (3 : Nat) < _; simp only [List.length_cons]; omega)), q⟩⟩)
theorem x_astore_6r {a0 a1 a2 a3 a4 a5 a6 : Option Value} {t : e_Lv}{x : Nat} : e_exec g k o ((pc, .astore 6, n, tg) :: r) pe (a0 :: a1 :: a2 :: a3 :: a4 :: a5 :: a6 :: t) (.ref x :: st) h J Ψ = e_exec g k o r pe (a0 :: a1 :: a2 :: a3 :: a4 :: e_cl a5 :: some (.ref x) :: t) st h J Ψ := by (simp only [e_exec, e_step, e_p1i, e_p1a, e_p1l, e_sto, e_sto2, e_st2, e_st1]; exact propext ⟨fun q => q.2, fun q => ⟨by (first | (simp; done) | (simp only [List.length_cons]; show (_ : Nat) < _; omega) | (show (3 : Nat) < _; simp only [List.length_cons]; omega)), q⟩⟩)
theorem x_astore_6n {a0 a1 a2 a3 a4 a5 a6 : Option Value} {t : e_Lv} : e_exec g k o ((pc, .astore 6, n, tg) :: r) pe (a0 :: a1 :: a2 :: a3 :: a4 :: a5 :: a6 :: t) (.null :: st) h J Ψ = e_exec g k o r pe (a0 :: a1 :: a2 :: a3 :: a4 :: e_cl a5 :: some (.null) :: t) st h J Ψ := by (simp only [e_exec, e_step, e_p1i, e_p1a, e_p1l, e_sto, e_sto2, e_st2, e_st1]; exact propext ⟨fun q => q.2, fun q => ⟨by (first | (simp; done) | (simp only [List.length_cons]; show (_ : Nat) < _; omega) | (show (3 : Nat) < _; simp only [List.length_cons]; omega)), q⟩⟩)
theorem x_astore_6q {a0 a1 a2 a3 a4 a5 a6 : Option Value} {t : e_Lv}{x : Option Nat} : e_exec g k o ((pc, .astore 6, n, tg) :: r) pe (a0 :: a1 :: a2 :: a3 :: a4 :: a5 :: a6 :: t) (va_rf x :: st) h J Ψ = e_exec g k o r pe (a0 :: a1 :: a2 :: a3 :: a4 :: e_cl a5 :: some (va_rf x) :: t) st h J Ψ := by (cases x <;> (simp only [e_exec, e_step, e_p1i, e_p1a, e_p1l, va_rf, e_sto, e_sto2, e_st2, e_st1]; exact propext ⟨fun q => q.2, fun q => ⟨by (first | (simp; done) | (simp only [List.length_cons]; show (_ : Nat) < _; omega) | (show (3 : Nat) < _; simp only [List.length_cons]; omega)), q⟩⟩))
theorem x_lstore_6 {a0 a1 a2 a3 a4 a5 a6 a7 : Option Value} {t : e_Lv}{x : Int64} : e_exec g k o ((pc, .lstore 6, n, tg) :: r) pe (a0 :: a1 :: a2 :: a3 :: a4 :: a5 :: a6 :: a7 :: t) (.long x :: st) h J Ψ = e_exec g k o r pe (a0 :: a1 :: a2 :: a3 :: a4 :: e_cl a5 :: some (.long x) :: none :: t) st h J Ψ := by (simp only [e_exec, e_step, e_p1i, e_p1a, e_p1l, e_sto, e_sto2, e_st2, e_st1]; exact propext ⟨fun q => q.2, fun q => ⟨by (first | (simp; done) | (simp only [List.length_cons]; show (_ : Nat) < _; omega) | (show (3 : Nat) < _; simp only [List.length_cons]; omega)), q⟩⟩)
theorem x_istore_7 {a0 a1 a2 a3 a4 a5 a6 a7 : Option Value} {t : e_Lv}{x : Int32} : e_exec g k o ((pc, .istore 7, n, tg) :: r) pe (a0 :: a1 :: a2 :: a3 :: a4 :: a5 :: a6 :: a7 :: t) (.int x :: st) h J Ψ = e_exec g k o r pe (a0 :: a1 :: a2 :: a3 :: a4 :: a5 :: e_cl a6 :: some (.int x) :: t) st h J Ψ := by (simp only [e_exec, e_step, e_p1i, e_p1a, e_p1l, e_sto, e_sto2, e_st2, e_st1]; exact propext ⟨fun q => q.2, fun q => ⟨by (first | (simp; done) | (simp only [List.length_cons]; show (_ : Nat) < _; omega) | (show (3 : Nat) < _; simp only [List.length_cons]; omega)), q⟩⟩)
theorem x_astore_7r {a0 a1 a2 a3 a4 a5 a6 a7 : Option Value} {t : e_Lv}{x : Nat} : e_exec g k o ((pc, .astore 7, n, tg) :: r) pe (a0 :: a1 :: a2 :: a3 :: a4 :: a5 :: a6 :: a7 :: t) (.ref x :: st) h J Ψ = e_exec g k o r pe (a0 :: a1 :: a2 :: a3 :: a4 :: a5 :: e_cl a6 :: some (.ref x) :: t) st h J Ψ := by (simp only [e_exec, e_step, e_p1i, e_p1a, e_p1l, e_sto, e_sto2, e_st2, e_st1]; exact propext ⟨fun q => q.2, fun q => ⟨by (first | (simp; done) | (simp only [List.length_cons]; show (_ : Nat) < _; omega) | (show (3 : Nat) < _; simp only [List.length_cons]; omega)), q⟩⟩)
theorem x_astore_7n {a0 a1 a2 a3 a4 a5 a6 a7 : Option Value} {t : e_Lv} : e_exec g k o ((pc, .astore 7, n, tg) :: r) pe (a0 :: a1 :: a2 :: a3 :: a4 :: a5 :: a6 :: a7 :: t) (.null :: st) h J Ψ = e_exec g k o r pe (a0 :: a1 :: a2 :: a3 :: a4 :: a5 :: e_cl a6 :: some (.null) :: t) st h J Ψ := by (simp only [e_exec, e_step, e_p1i, e_p1a, e_p1l, e_sto, e_sto2, e_st2, e_st1]; exact propext ⟨fun q => q.2, fun q => ⟨by (first | (simp; done) | (simp only [List.length_cons]; show (_ : Nat) < _; omega) | (show (3 : Nat) < _; simp only [List.length_cons]; omega)), q⟩⟩)
theorem x_astore_7q {a0 a1 a2 a3 a4 a5 a6 a7 : Option Value} {t : e_Lv}{x : Option Nat} : e_exec g k o ((pc, .astore 7, n, tg) :: r) pe (a0 :: a1 :: a2 :: a3 :: a4 :: a5 :: a6 :: a7 :: t) (va_rf x :: st) h J Ψ = e_exec g k o r pe (a0 :: a1 :: a2 :: a3 :: a4 :: a5 :: e_cl a6 :: some (va_rf x) :: t) st h J Ψ := by (cases x <;> (simp only [e_exec, e_step, e_p1i, e_p1a, e_p1l, va_rf, e_sto, e_sto2, e_st2, e_st1]; exact propext ⟨fun q => q.2, fun q => ⟨by (first | (simp; done) | (simp only [List.length_cons]; show (_ : Nat) < _; omega) | (show (3 : Nat) < _; simp only [List.length_cons]; omega)), q⟩⟩))
theorem x_lstore_7 {a0 a1 a2 a3 a4 a5 a6 a7 a8 : Option Value} {t : e_Lv}{x : Int64} : e_exec g k o ((pc, .lstore 7, n, tg) :: r) pe (a0 :: a1 :: a2 :: a3 :: a4 :: a5 :: a6 :: a7 :: a8 :: t) (.long x :: st) h J Ψ = e_exec g k o r pe (a0 :: a1 :: a2 :: a3 :: a4 :: a5 :: e_cl a6 :: some (.long x) :: none :: t) st h J Ψ := by (simp only [e_exec, e_step, e_p1i, e_p1a, e_p1l, e_sto, e_sto2, e_st2, e_st1]; exact propext ⟨fun q => q.2, fun q => ⟨by (first | (simp; done) | (simp only [List.length_cons]; show (_ : Nat) < _; omega) | (show (3 : Nat) < _; simp only [List.length_cons]; omega)), q⟩⟩)
theorem x_istore_8 {a0 a1 a2 a3 a4 a5 a6 a7 a8 : Option Value} {t : e_Lv}{x : Int32} : e_exec g k o ((pc, .istore 8, n, tg) :: r) pe (a0 :: a1 :: a2 :: a3 :: a4 :: a5 :: a6 :: a7 :: a8 :: t) (.int x :: st) h J Ψ = e_exec g k o r pe (a0 :: a1 :: a2 :: a3 :: a4 :: a5 :: a6 :: e_cl a7 :: some (.int x) :: t) st h J Ψ := by (simp only [e_exec, e_step, e_p1i, e_p1a, e_p1l, e_sto, e_sto2, e_st2, e_st1]; exact propext ⟨fun q => q.2, fun q => ⟨by (first | (simp; done) | (simp only [List.length_cons]; show (_ : Nat) < _; omega) | (show (3 : Nat) < _; simp only [List.length_cons]; omega)), q⟩⟩)
theorem x_astore_8r {a0 a1 a2 a3 a4 a5 a6 a7 a8 : Option Value} {t : e_Lv}{x : Nat} : e_exec g k o ((pc, .astore 8, n, tg) :: r) pe (a0 :: a1 :: a2 :: a3 :: a4 :: a5 :: a6 :: a7 :: a8 :: t) (.ref x :: st) h J Ψ = e_exec g k o r pe (a0 :: a1 :: a2 :: a3 :: a4 :: a5 :: a6 :: e_cl a7 :: some (.ref x) :: t) st h J Ψ := by (simp only [e_exec, e_step, e_p1i, e_p1a, e_p1l, e_sto, e_sto2, e_st2, e_st1]; exact propext ⟨fun q => q.2, fun q => ⟨by (first | (simp; done) | (simp only [List.length_cons]; show (_ : Nat) < _; omega) | (show (3 : Nat) < _; simp only [List.length_cons]; omega)), q⟩⟩)
theorem x_astore_8n {a0 a1 a2 a3 a4 a5 a6 a7 a8 : Option Value} {t : e_Lv} : e_exec g k o ((pc, .astore 8, n, tg) :: r) pe (a0 :: a1 :: a2 :: a3 :: a4 :: a5 :: a6 :: a7 :: a8 :: t) (.null :: st) h J Ψ = e_exec g k o r pe (a0 :: a1 :: a2 :: a3 :: a4 :: a5 :: a6 :: e_cl a7 :: some (.null) :: t) st h J Ψ := by (simp only [e_exec, e_step, e_p1i, e_p1a, e_p1l, e_sto, e_sto2, e_st2, e_st1]; exact propext ⟨fun q => q.2, fun q => ⟨by (first | (simp; done) | (simp only [List.length_cons]; show (_ : Nat) < _; omega) | (show (3 : Nat) < _; simp only [List.length_cons]; omega)), q⟩⟩)
theorem x_astore_8q {a0 a1 a2 a3 a4 a5 a6 a7 a8 : Option Value} {t : e_Lv}{x : Option Nat} : e_exec g k o ((pc, .astore 8, n, tg) :: r) pe (a0 :: a1 :: a2 :: a3 :: a4 :: a5 :: a6 :: a7 :: a8 :: t) (va_rf x :: st) h J Ψ = e_exec g k o r pe (a0 :: a1 :: a2 :: a3 :: a4 :: a5 :: a6 :: e_cl a7 :: some (va_rf x) :: t) st h J Ψ := by (cases x <;> (simp only [e_exec, e_step, e_p1i, e_p1a, e_p1l, va_rf, e_sto, e_sto2, e_st2, e_st1]; exact propext ⟨fun q => q.2, fun q => ⟨by (first | (simp; done) | (simp only [List.length_cons]; show (_ : Nat) < _; omega) | (show (3 : Nat) < _; simp only [List.length_cons]; omega)), q⟩⟩))
theorem x_lstore_8 {a0 a1 a2 a3 a4 a5 a6 a7 a8 a9 : Option Value} {t : e_Lv}{x : Int64} : e_exec g k o ((pc, .lstore 8, n, tg) :: r) pe (a0 :: a1 :: a2 :: a3 :: a4 :: a5 :: a6 :: a7 :: a8 :: a9 :: t) (.long x :: st) h J Ψ = e_exec g k o r pe (a0 :: a1 :: a2 :: a3 :: a4 :: a5 :: a6 :: e_cl a7 :: some (.long x) :: none :: t) st h J Ψ := by (simp only [e_exec, e_step, e_p1i, e_p1a, e_p1l, e_sto, e_sto2, e_st2, e_st1]; exact propext ⟨fun q => q.2, fun q => ⟨by (first | (simp; done) | (simp only [List.length_cons]; show (_ : Nat) < _; omega) | (show (3 : Nat) < _; simp only [List.length_cons]; omega)), q⟩⟩)
theorem x_istore_9 {a0 a1 a2 a3 a4 a5 a6 a7 a8 a9 : Option Value} {t : e_Lv}{x : Int32} : e_exec g k o ((pc, .istore 9, n, tg) :: r) pe (a0 :: a1 :: a2 :: a3 :: a4 :: a5 :: a6 :: a7 :: a8 :: a9 :: t) (.int x :: st) h J Ψ = e_exec g k o r pe (a0 :: a1 :: a2 :: a3 :: a4 :: a5 :: a6 :: a7 :: e_cl a8 :: some (.int x) :: t) st h J Ψ := by (simp only [e_exec, e_step, e_p1i, e_p1a, e_p1l, e_sto, e_sto2, e_st2, e_st1]; exact propext ⟨fun q => q.2, fun q => ⟨by (first | (simp; done) | (simp only [List.length_cons]; show (_ : Nat) < _; omega) | (show (3 : Nat) < _; simp only [List.length_cons]; omega)), q⟩⟩)
theorem x_astore_9r {a0 a1 a2 a3 a4 a5 a6 a7 a8 a9 : Option Value} {t : e_Lv}{x : Nat} : e_exec g k o ((pc, .astore 9, n, tg) :: r) pe (a0 :: a1 :: a2 :: a3 :: a4 :: a5 :: a6 :: a7 :: a8 :: a9 :: t) (.ref x :: st) h J Ψ = e_exec g k o r pe (a0 :: a1 :: a2 :: a3 :: a4 :: a5 :: a6 :: a7 :: e_cl a8 :: some (.ref x) :: t) st h J Ψ := by (simp only [e_exec, e_step, e_p1i, e_p1a, e_p1l, e_sto, e_sto2, e_st2, e_st1]; exact propext ⟨fun q => q.2, fun q => ⟨by (first | (simp; done) | (simp only [List.length_cons]; show (_ : Nat) < _; omega) | (show (3 : Nat) < _; simp only [List.length_cons]; omega)), q⟩⟩)
theorem x_astore_9n {a0 a1 a2 a3 a4 a5 a6 a7 a8 a9 : Option Value} {t : e_Lv} : e_exec g k o ((pc, .astore 9, n, tg) :: r) pe (a0 :: a1 :: a2 :: a3 :: a4 :: a5 :: a6 :: a7 :: a8 :: a9 :: t) (.null :: st) h J Ψ = e_exec g k o r pe (a0 :: a1 :: a2 :: a3 :: a4 :: a5 :: a6 :: a7 :: e_cl a8 :: some (.null) :: t) st h J Ψ := by (simp only [e_exec, e_step, e_p1i, e_p1a, e_p1l, e_sto, e_sto2, e_st2, e_st1]; exact propext ⟨fun q => q.2, fun q => ⟨by (first | (simp; done) | (simp only [List.length_cons]; show (_ : Nat) < _; omega) | (show (3 : Nat) < _; simp only [List.length_cons]; omega)), q⟩⟩)
theorem x_astore_9q {a0 a1 a2 a3 a4 a5 a6 a7 a8 a9 : Option Value} {t : e_Lv}{x : Option Nat} : e_exec g k o ((pc, .astore 9, n, tg) :: r) pe (a0 :: a1 :: a2 :: a3 :: a4 :: a5 :: a6 :: a7 :: a8 :: a9 :: t) (va_rf x :: st) h J Ψ = e_exec g k o r pe (a0 :: a1 :: a2 :: a3 :: a4 :: a5 :: a6 :: a7 :: e_cl a8 :: some (va_rf x) :: t) st h J Ψ := by (cases x <;> (simp only [e_exec, e_step, e_p1i, e_p1a, e_p1l, va_rf, e_sto, e_sto2, e_st2, e_st1]; exact propext ⟨fun q => q.2, fun q => ⟨by (first | (simp; done) | (simp only [List.length_cons]; show (_ : Nat) < _; omega) | (show (3 : Nat) < _; simp only [List.length_cons]; omega)), q⟩⟩))
theorem x_lstore_9 {a0 a1 a2 a3 a4 a5 a6 a7 a8 a9 a10 : Option Value} {t : e_Lv}{x : Int64} : e_exec g k o ((pc, .lstore 9, n, tg) :: r) pe (a0 :: a1 :: a2 :: a3 :: a4 :: a5 :: a6 :: a7 :: a8 :: a9 :: a10 :: t) (.long x :: st) h J Ψ = e_exec g k o r pe (a0 :: a1 :: a2 :: a3 :: a4 :: a5 :: a6 :: a7 :: e_cl a8 :: some (.long x) :: none :: t) st h J Ψ := by (simp only [e_exec, e_step, e_p1i, e_p1a, e_p1l, e_sto, e_sto2, e_st2, e_st1]; exact propext ⟨fun q => q.2, fun q => ⟨by (first | (simp; done) | (simp only [List.length_cons]; show (_ : Nat) < _; omega) | (show (3 : Nat) < _; simp only [List.length_cons]; omega)), q⟩⟩)
theorem x_istore_10 {a0 a1 a2 a3 a4 a5 a6 a7 a8 a9 a10 : Option Value} {t : e_Lv}{x : Int32} : e_exec g k o ((pc, .istore 10, n, tg) :: r) pe (a0 :: a1 :: a2 :: a3 :: a4 :: a5 :: a6 :: a7 :: a8 :: a9 :: a10 :: t) (.int x :: st) h J Ψ = e_exec g k o r pe (a0 :: a1 :: a2 :: a3 :: a4 :: a5 :: a6 :: a7 :: a8 :: e_cl a9 :: some (.int x) :: t) st h J Ψ := by (simp only [e_exec, e_step, e_p1i, e_p1a, e_p1l, e_sto, e_sto2, e_st2, e_st1]; exact propext ⟨fun q => q.2, fun q => ⟨by (first | (simp; done) | (simp only [List.length_cons]; show (_ : Nat) < _; omega) | (show (3 : Nat) < _; simp only [List.length_cons]; omega)), q⟩⟩)
theorem x_astore_10r {a0 a1 a2 a3 a4 a5 a6 a7 a8 a9 a10 : Option Value} {t : e_Lv}{x : Nat} : e_exec g k o ((pc, .astore 10, n, tg) :: r) pe (a0 :: a1 :: a2 :: a3 :: a4 :: a5 :: a6 :: a7 :: a8 :: a9 :: a10 :: t) (.ref x :: st) h J Ψ = e_exec g k o r pe (a0 :: a1 :: a2 :: a3 :: a4 :: a5 :: a6 :: a7 :: a8 :: e_cl a9 :: some (.ref x) :: t) st h J Ψ := by (simp only [e_exec, e_step, e_p1i, e_p1a, e_p1l, e_sto, e_sto2, e_st2, e_st1]; exact propext ⟨fun q => q.2, fun q => ⟨by (first | (simp; done) | (simp only [List.length_cons]; show (_ : Nat) < _; omega) | (show (3 : Nat) < _; simp only [List.length_cons]; omega)), q⟩⟩)
theorem x_astore_10n {a0 a1 a2 a3 a4 a5 a6 a7 a8 a9 a10 : Option Value} {t : e_Lv} : e_exec g k o ((pc, .astore 10, n, tg) :: r) pe (a0 :: a1 :: a2 :: a3 :: a4 :: a5 :: a6 :: a7 :: a8 :: a9 :: a10 :: t) (.null :: st) h J Ψ = e_exec g k o r pe (a0 :: a1 :: a2 :: a3 :: a4 :: a5 :: a6 :: a7 :: a8 :: e_cl a9 :: some (.null) :: t) st h J Ψ := by (simp only [e_exec, e_step, e_p1i, e_p1a, e_p1l, e_sto, e_sto2, e_st2, e_st1]; exact propext ⟨fun q => q.2, fun q => ⟨by (first | (simp; done) | (simp only [List.length_cons]; show (_ : Nat) < _; omega) | (show (3 : Nat) < _; simp only [List.length_cons]; omega)), q⟩⟩)
theorem x_astore_10q {a0 a1 a2 a3 a4 a5 a6 a7 a8 a9 a10 : Option Value} {t : e_Lv}{x : Option Nat} : e_exec g k o ((pc, .astore 10, n, tg) :: r) pe (a0 :: a1 :: a2 :: a3 :: a4 :: a5 :: a6 :: a7 :: a8 :: a9 :: a10 :: t) (va_rf x :: st) h J Ψ = e_exec g k o r pe (a0 :: a1 :: a2 :: a3 :: a4 :: a5 :: a6 :: a7 :: a8 :: e_cl a9 :: some (va_rf x) :: t) st h J Ψ := by (cases x <;> (simp only [e_exec, e_step, e_p1i, e_p1a, e_p1l, va_rf, e_sto, e_sto2, e_st2, e_st1]; exact propext ⟨fun q => q.2, fun q => ⟨by (first | (simp; done) | (simp only [List.length_cons]; show (_ : Nat) < _; omega) | (show (3 : Nat) < _; simp only [List.length_cons]; omega)), q⟩⟩))
theorem x_lstore_10 {a0 a1 a2 a3 a4 a5 a6 a7 a8 a9 a10 a11 : Option Value} {t : e_Lv}{x : Int64} : e_exec g k o ((pc, .lstore 10, n, tg) :: r) pe (a0 :: a1 :: a2 :: a3 :: a4 :: a5 :: a6 :: a7 :: a8 :: a9 :: a10 :: a11 :: t) (.long x :: st) h J Ψ = e_exec g k o r pe (a0 :: a1 :: a2 :: a3 :: a4 :: a5 :: a6 :: a7 :: a8 :: e_cl a9 :: some (.long x) :: none :: t) st h J Ψ := by (simp only [e_exec, e_step, e_p1i, e_p1a, e_p1l, e_sto, e_sto2, e_st2, e_st1]; exact propext ⟨fun q => q.2, fun q => ⟨by (first | (simp; done) | (simp only [List.length_cons]; show (_ : Nat) < _; omega) | (show (3 : Nat) < _; simp only [List.length_cons]; omega)), q⟩⟩)
theorem x_istore_11 {a0 a1 a2 a3 a4 a5 a6 a7 a8 a9 a10 a11 : Option Value} {t : e_Lv}{x : Int32} : e_exec g k o ((pc, .istore 11, n, tg) :: r) pe (a0 :: a1 :: a2 :: a3 :: a4 :: a5 :: a6 :: a7 :: a8 :: a9 :: a10 :: a11 :: t) (.int x :: st) h J Ψ = e_exec g k o r pe (a0 :: a1 :: a2 :: a3 :: a4 :: a5 :: a6 :: a7 :: a8 :: a9 :: e_cl a10 :: some (.int x) :: t) st h J Ψ := by (simp only [e_exec, e_step, e_p1i, e_p1a, e_p1l, e_sto, e_sto2, e_st2, e_st1]; exact propext ⟨fun q => q.2, fun q => ⟨by (first | (simp; done) | (simp only [List.length_cons]; show (_ : Nat) < _; omega) | (show (3 : Nat) < _; simp only [List.length_cons]; omega)), q⟩⟩)
theorem x_astore_11r {a0 a1 a2 a3 a4 a5 a6 a7 a8 a9 a10 a11 : Option Value} {t : e_Lv}{x : Nat} : e_exec g k o ((pc, .astore 11, n, tg) :: r) pe (a0 :: a1 :: a2 :: a3 :: a4 :: a5 :: a6 :: a7 :: a8 :: a9 :: a10 :: a11 :: t) (.ref x :: st) h J Ψ = e_exec g k o r pe (a0 :: a1 :: a2 :: a3 :: a4 :: a5 :: a6 :: a7 :: a8 :: a9 :: e_cl a10 :: some (.ref x) :: t) st h J Ψ := by (simp only [e_exec, e_step, e_p1i, e_p1a, e_p1l, e_sto, e_sto2, e_st2, e_st1]; exact propext ⟨fun q => q.2, fun q => ⟨by (first | (simp; done) | (simp only [List.length_cons]; show (_ : Nat) < _; omega) | (show (3 : Nat) < _; simp only [List.length_cons]; omega)), q⟩⟩)
theorem x_astore_11n {a0 a1 a2 a3 a4 a5 a6 a7 a8 a9 a10 a11 : Option Value} {t : e_Lv} : e_exec g k o ((pc, .astore 11, n, tg) :: r) pe (a0 :: a1 :: a2 :: a3 :: a4 :: a5 :: a6 :: a7 :: a8 :: a9 :: a10 :: a11 :: t) (.null :: st) h J Ψ = e_exec g k o r pe (a0 :: a1 :: a2 :: a3 :: a4 :: a5 :: a6 :: a7 :: a8 :: a9 :: e_cl a10 :: some (.null) :: t) st h J Ψ := by (simp only [e_exec, e_step, e_p1i, e_p1a, e_p1l, e_sto, e_sto2, e_st2, e_st1]; exact propext ⟨fun q => q.2, fun q => ⟨by (first | (simp; done) | (simp only [List.length_cons]; show (_ : Nat) < _; omega) | (show (3 : Nat) < _; simp only [List.length_cons]; omega)), q⟩⟩)
theorem x_astore_11q {a0 a1 a2 a3 a4 a5 a6 a7 a8 a9 a10 a11 : Option Value} {t : e_Lv}{x : Option Nat} : e_exec g k o ((pc, .astore 11, n, tg) :: r) pe (a0 :: a1 :: a2 :: a3 :: a4 :: a5 :: a6 :: a7 :: a8 :: a9 :: a10 :: a11 :: t) (va_rf x :: st) h J Ψ = e_exec g k o r pe (a0 :: a1 :: a2 :: a3 :: a4 :: a5 :: a6 :: a7 :: a8 :: a9 :: e_cl a10 :: some (va_rf x) :: t) st h J Ψ := by (cases x <;> (simp only [e_exec, e_step, e_p1i, e_p1a, e_p1l, va_rf, e_sto, e_sto2, e_st2, e_st1]; exact propext ⟨fun q => q.2, fun q => ⟨by (first | (simp; done) | (simp only [List.length_cons]; show (_ : Nat) < _; omega) | (show (3 : Nat) < _; simp only [List.length_cons]; omega)), q⟩⟩))
theorem x_lstore_11 {a0 a1 a2 a3 a4 a5 a6 a7 a8 a9 a10 a11 a12 : Option Value} {t : e_Lv}{x : Int64} : e_exec g k o ((pc, .lstore 11, n, tg) :: r) pe (a0 :: a1 :: a2 :: a3 :: a4 :: a5 :: a6 :: a7 :: a8 :: a9 :: a10 :: a11 :: a12 :: t) (.long x :: st) h J Ψ = e_exec g k o r pe (a0 :: a1 :: a2 :: a3 :: a4 :: a5 :: a6 :: a7 :: a8 :: a9 :: e_cl a10 :: some (.long x) :: none :: t) st h J Ψ := by (simp only [e_exec, e_step, e_p1i, e_p1a, e_p1l, e_sto, e_sto2, e_st2, e_st1]; exact propext ⟨fun q => q.2, fun q => ⟨by (first | (simp; done) | (simp only [List.length_cons]; show (_ : Nat) < _; omega) | (show (3 : Nat) < _; simp only [List.length_cons]; omega)), q⟩⟩)
theorem x_istore_12 {a0 a1 a2 a3 a4 a5 a6 a7 a8 a9 a10 a11 a12 : Option Value} {t : e_Lv}{x : Int32} : e_exec g k o ((pc, .istore 12, n, tg) :: r) pe (a0 :: a1 :: a2 :: a3 :: a4 :: a5 :: a6 :: a7 :: a8 :: a9 :: a10 :: a11 :: a12 :: t) (.int x :: st) h J Ψ = e_exec g k o r pe (a0 :: a1 :: a2 :: a3 :: a4 :: a5 :: a6 :: a7 :: a8 :: a9 :: a10 :: e_cl a11 :: some (.int x) :: t) st h J Ψ := by (simp only [e_exec, e_step, e_p1i, e_p1a, e_p1l, e_sto, e_sto2, e_st2, e_st1]; exact propext ⟨fun q => q.2, fun q => ⟨by (first | (simp; done) | (simp only [List.length_cons]; show (_ : Nat) < _; omega) | (show (3 : Nat) < _; simp only [List.length_cons]; omega)), q⟩⟩)
theorem x_astore_12r {a0 a1 a2 a3 a4 a5 a6 a7 a8 a9 a10 a11 a12 : Option Value} {t : e_Lv}{x : Nat} : e_exec g k o ((pc, .astore 12, n, tg) :: r) pe (a0 :: a1 :: a2 :: a3 :: a4 :: a5 :: a6 :: a7 :: a8 :: a9 :: a10 :: a11 :: a12 :: t) (.ref x :: st) h J Ψ = e_exec g k o r pe (a0 :: a1 :: a2 :: a3 :: a4 :: a5 :: a6 :: a7 :: a8 :: a9 :: a10 :: e_cl a11 :: some (.ref x) :: t) st h J Ψ := by (simp only [e_exec, e_step, e_p1i, e_p1a, e_p1l, e_sto, e_sto2, e_st2, e_st1]; exact propext ⟨fun q => q.2, fun q => ⟨by (first | (simp; done) | (simp only [List.length_cons]; show (_ : Nat) < _; omega) | (show (3 : Nat) < _; simp only [List.length_cons]; omega)), q⟩⟩)
theorem x_astore_12n {a0 a1 a2 a3 a4 a5 a6 a7 a8 a9 a10 a11 a12 : Option Value} {t : e_Lv} : e_exec g k o ((pc, .astore 12, n, tg) :: r) pe (a0 :: a1 :: a2 :: a3 :: a4 :: a5 :: a6 :: a7 :: a8 :: a9 :: a10 :: a11 :: a12 :: t) (.null :: st) h J Ψ = e_exec g k o r pe (a0 :: a1 :: a2 :: a3 :: a4 :: a5 :: a6 :: a7 :: a8 :: a9 :: a10 :: e_cl a11 :: some (.null) :: t) st h J Ψ := by (simp only [e_exec, e_step, e_p1i, e_p1a, e_p1l, e_sto, e_sto2, e_st2, e_st1]; exact propext ⟨fun q => q.2, fun q => ⟨by (first | (simp; done) | (simp only [List.length_cons]; show (_ : Nat) < _; omega) | (show (3 : Nat) < _; simp only [List.length_cons]; omega)), q⟩⟩)
theorem x_astore_12q {a0 a1 a2 a3 a4 a5 a6 a7 a8 a9 a10 a11 a12 : Option Value} {t : e_Lv}{x : Option Nat} : e_exec g k o ((pc, .astore 12, n, tg) :: r) pe (a0 :: a1 :: a2 :: a3 :: a4 :: a5 :: a6 :: a7 :: a8 :: a9 :: a10 :: a11 :: a12 :: t) (va_rf x :: st) h J Ψ = e_exec g k o r pe (a0 :: a1 :: a2 :: a3 :: a4 :: a5 :: a6 :: a7 :: a8 :: a9 :: a10 :: e_cl a11 :: some (va_rf x) :: t) st h J Ψ := by (cases x <;> (simp only [e_exec, e_step, e_p1i, e_p1a, e_p1l, va_rf, e_sto, e_sto2, e_st2, e_st1]; exact propext ⟨fun q => q.2, fun q => ⟨by (first | (simp; done) | (simp only [List.length_cons]; show (_ : Nat) < _; omega) | (show (3 : Nat) < _; simp only [List.length_cons]; omega)), q⟩⟩))
theorem x_lstore_12 {a0 a1 a2 a3 a4 a5 a6 a7 a8 a9 a10 a11 a12 a13 : Option Value} {t : e_Lv}{x : Int64} : e_exec g k o ((pc, .lstore 12, n, tg) :: r) pe (a0 :: a1 :: a2 :: a3 :: a4 :: a5 :: a6 :: a7 :: a8 :: a9 :: a10 :: a11 :: a12 :: a13 :: t) (.long x :: st) h J Ψ = e_exec g k o r pe (a0 :: a1 :: a2 :: a3 :: a4 :: a5 :: a6 :: a7 :: a8 :: a9 :: a10 :: e_cl a11 :: some (.long x) :: none :: t) st h J Ψ := by (simp only [e_exec, e_step, e_p1i, e_p1a, e_p1l, e_sto, e_sto2, e_st2, e_st1]; exact propext ⟨fun q => q.2, fun q => ⟨by (first | (simp; done) | (simp only [List.length_cons]; show (_ : Nat) < _; omega) | (show (3 : Nat) < _; simp only [List.length_cons]; omega)), q⟩⟩)
theorem x_istore_13 {a0 a1 a2 a3 a4 a5 a6 a7 a8 a9 a10 a11 a12 a13 : Option Value} {t : e_Lv}{x : Int32} : e_exec g k o ((pc, .istore 13, n, tg) :: r) pe (a0 :: a1 :: a2 :: a3 :: a4 :: a5 :: a6 :: a7 :: a8 :: a9 :: a10 :: a11 :: a12 :: a13 :: t) (.int x :: st) h J Ψ = e_exec g k o r pe (a0 :: a1 :: a2 :: a3 :: a4 :: a5 :: a6 :: a7 :: a8 :: a9 :: a10 :: a11 :: e_cl a12 :: some (.int x) :: t) st h J Ψ := by (simp only [e_exec, e_step, e_p1i, e_p1a, e_p1l, e_sto, e_sto2, e_st2, e_st1]; exact propext ⟨fun q => q.2, fun q => ⟨by (first | (simp; done) | (simp only [List.length_cons]; show (_ : Nat) < _; omega) | (show (3 : Nat) < _; simp only [List.length_cons]; omega)), q⟩⟩)
theorem x_astore_13r {a0 a1 a2 a3 a4 a5 a6 a7 a8 a9 a10 a11 a12 a13 : Option Value} {t : e_Lv}{x : Nat} : e_exec g k o ((pc, .astore 13, n, tg) :: r) pe (a0 :: a1 :: a2 :: a3 :: a4 :: a5 :: a6 :: a7 :: a8 :: a9 :: a10 :: a11 :: a12 :: a13 :: t) (.ref x :: st) h J Ψ = e_exec g k o r pe (a0 :: a1 :: a2 :: a3 :: a4 :: a5 :: a6 :: a7 :: a8 :: a9 :: a10 :: a11 :: e_cl a12 :: some (.ref x) :: t) st h J Ψ := by (simp only [e_exec, e_step, e_p1i, e_p1a, e_p1l, e_sto, e_sto2, e_st2, e_st1]; exact propext ⟨fun q => q.2, fun q => ⟨by (first | (simp; done) | (simp only [List.length_cons]; show (_ : Nat) < _; omega) | (show (3 : Nat) < _; simp only [List.length_cons]; omega)), q⟩⟩)
theorem x_astore_13n {a0 a1 a2 a3 a4 a5 a6 a7 a8 a9 a10 a11 a12 a13 : Option Value} {t : e_Lv} : e_exec g k o ((pc, .astore 13, n, tg) :: r) pe (a0 :: a1 :: a2 :: a3 :: a4 :: a5 :: a6 :: a7 :: a8 :: a9 :: a10 :: a11 :: a12 :: a13 :: t) (.null :: st) h J Ψ = e_exec g k o r pe (a0 :: a1 :: a2 :: a3 :: a4 :: a5 :: a6 :: a7 :: a8 :: a9 :: a10 :: a11 :: e_cl a12 :: some (.null) :: t) st h J Ψ := by (simp only [e_exec, e_step, e_p1i, e_p1a, e_p1l, e_sto, e_sto2, e_st2, e_st1]; exact propext ⟨fun q => q.2, fun q => ⟨by (first | (simp; done) | (simp only [List.length_cons]; show (_ : Nat) < _; omega) | (show (3 : Nat) < _; simp only [List.length_cons]; omega)), q⟩⟩)
theorem x_astore_13q {a0 a1 a2 a3 a4 a5 a6 a7 a8 a9 a10 a11 a12 a13 : Option Value} {t : e_Lv}{x : Option Nat} : e_exec g k o ((pc, .astore 13, n, tg) :: r) pe (a0 :: a1 :: a2 :: a3 :: a4 :: a5 :: a6 :: a7 :: a8 :: a9 :: a10 :: a11 :: a12 :: a13 :: t) (va_rf x :: st) h J Ψ = e_exec g k o r pe (a0 :: a1 :: a2 :: a3 :: a4 :: a5 :: a6 :: a7 :: a8 :: a9 :: a10 :: a11 :: e_cl a12 :: some (va_rf x) :: t) st h J Ψ := by (cases x <;> (simp only [e_exec, e_step, e_p1i, e_p1a, e_p1l, va_rf, e_sto, e_sto2, e_st2, e_st1]; exact propext ⟨fun q => q.2, fun q => ⟨by (first | (simp; done) | (simp only [List.length_cons]; show (_ : Nat) < _; omega) | (show (3 : Nat) < _; simp only [List.length_cons]; omega)), q⟩⟩))
theorem x_istore_14 {a0 a1 a2 a3 a4 a5 a6 a7 a8 a9 a10 a11 a12 a13 a14 : Option Value} {t : e_Lv}{x : Int32} : e_exec g k o ((pc, .istore 14, n, tg) :: r) pe (a0 :: a1 :: a2 :: a3 :: a4 :: a5 :: a6 :: a7 :: a8 :: a9 :: a10 :: a11 :: a12 :: a13 :: a14 :: t) (.int x :: st) h J Ψ = e_exec g k o r pe (a0 :: a1 :: a2 :: a3 :: a4 :: a5 :: a6 :: a7 :: a8 :: a9 :: a10 :: a11 :: a12 :: e_cl a13 :: some (.int x) :: t) st h J Ψ := by (simp only [e_exec, e_step, e_p1i, e_p1a, e_p1l, e_sto, e_sto2, e_st2, e_st1]; exact propext ⟨fun q => q.2, fun q => ⟨by (first | (simp; done) | (simp only [List.length_cons]; show (_ : Nat) < _; omega) | (show (3 : Nat) < _; simp only [List.length_cons]; omega)), q⟩⟩)
theorem x_astore_14r {a0 a1 a2 a3 a4 a5 a6 a7 a8 a9 a10 a11 a12 a13 a14 : Option Value} {t : e_Lv}{x : Nat} : e_exec g k o ((pc, .astore 14, n, tg) :: r) pe (a0 :: a1 :: a2 :: a3 :: a4 :: a5 :: a6 :: a7 :: a8 :: a9 :: a10 :: a11 :: a12 :: a13 :: a14 :: t) (.ref x :: st) h J Ψ = e_exec g k o r pe (a0 :: a1 :: a2 :: a3 :: a4 :: a5 :: a6 :: a7 :: a8 :: a9 :: a10 :: a11 :: a12 :: e_cl a13 :: some (.ref x) :: t) st h J Ψ := by (simp only [e_exec, e_step, e_p1i, e_p1a, e_p1l, e_sto, e_sto2, e_st2, e_st1]; exact propext ⟨fun q => q.2, fun q => ⟨by (first | (simp; done) | (simp only [List.length_cons]; show (_ : Nat) < _; omega) | (show (3 : Nat) < _; simp only [List.length_cons]; omega)), q⟩⟩)
theorem x_astore_14n {a0 a1 a2 a3 a4 a5 a6 a7 a8 a9 a10 a11 a12 a13 a14 : Option Value} {t : e_Lv} : e_exec g k o ((pc, .astore 14, n, tg) :: r) pe (a0 :: a1 :: a2 :: a3 :: a4 :: a5 :: a6 :: a7 :: a8 :: a9 :: a10 :: a11 :: a12 :: a13 :: a14 :: t) (.null :: st) h J Ψ = e_exec g k o r pe (a0 :: a1 :: a2 :: a3 :: a4 :: a5 :: a6 :: a7 :: a8 :: a9 :: a10 :: a11 :: a12 :: e_cl a13 :: some (.null) :: t) st h J Ψ := by (simp only [e_exec, e_step, e_p1i, e_p1a, e_p1l, e_sto, e_sto2, e_st2, e_st1]; exact propext ⟨fun q => q.2, fun q => ⟨by (first | (simp; done) | (simp only [List.length_cons]; show (_ : Nat) < _; omega) | (show (3 : Nat) < _; simp only [List.length_cons]; omega)), q⟩⟩)
theorem x_astore_14q {a0 a1 a2 a3 a4 a5 a6 a7 a8 a9 a10 a11 a12 a13 a14 : Option Value} {t : e_Lv}{x : Option Nat} : e_exec g k o ((pc, .astore 14, n, tg) :: r) pe (a0 :: a1 :: a2 :: a3 :: a4 :: a5 :: a6 :: a7 :: a8 :: a9 :: a10 :: a11 :: a12 :: a13 :: a14 :: t) (va_rf x :: st) h J Ψ = e_exec g k o r pe (a0 :: a1 :: a2 :: a3 :: a4 :: a5 :: a6 :: a7 :: a8 :: a9 :: a10 :: a11 :: a12 :: e_cl a13 :: some (va_rf x) :: t) st h J Ψ := by (cases x <;> (simp only [e_exec, e_step, e_p1i, e_p1a, e_p1l, va_rf, e_sto, e_sto2, e_st2, e_st1]; exact propext ⟨fun q => q.2, fun q => ⟨by (first | (simp; done) | (simp only [List.length_cons]; show (_ : Nat) < _; omega) | (show (3 : Nat) < _; simp only [List.length_cons]; omega)), q⟩⟩))
theorem x_istore_15 {a0 a1 a2 a3 a4 a5 a6 a7 a8 a9 a10 a11 a12 a13 a14 a15 : Option Value} {t : e_Lv}{x : Int32} : e_exec g k o ((pc, .istore 15, n, tg) :: r) pe (a0 :: a1 :: a2 :: a3 :: a4 :: a5 :: a6 :: a7 :: a8 :: a9 :: a10 :: a11 :: a12 :: a13 :: a14 :: a15 :: t) (.int x :: st) h J Ψ = e_exec g k o r pe (a0 :: a1 :: a2 :: a3 :: a4 :: a5 :: a6 :: a7 :: a8 :: a9 :: a10 :: a11 :: a12 :: a13 :: e_cl a14 :: some (.int x) :: t) st h J Ψ := by (simp only [e_exec, e_step, e_p1i, e_p1a, e_p1l, e_sto, e_sto2, e_st2, e_st1]; exact propext ⟨fun q => q.2, fun q => ⟨by (first | (simp; done) | (simp only [List.length_cons]; show (_ : Nat) < _; omega) | (show (3 : Nat) < _; simp only [List.length_cons]; omega)), q⟩⟩)
theorem x_astore_15r {a0 a1 a2 a3 a4 a5 a6 a7 a8 a9 a10 a11 a12 a13 a14 a15 : Option Value} {t : e_Lv}{x : Nat} : e_exec g k o ((pc, .astore 15, n, tg) :: r) pe (a0 :: a1 :: a2 :: a3 :: a4 :: a5 :: a6 :: a7 :: a8 :: a9 :: a10 :: a11 :: a12 :: a13 :: a14 :: a15 :: t) (.ref x :: st) h J Ψ = e_exec g k o r pe (a0 :: a1 :: a2 :: a3 :: a4 :: a5 :: a6 :: a7 :: a8 :: a9 :: a10 :: a11 :: a12 :: a13 :: e_cl a14 :: some (.ref x) :: t) st h J Ψ := by (simp only [e_exec, e_step, e_p1i, e_p1a, e_p1l, e_sto, e_sto2, e_st2, e_st1]; exact propext ⟨fun q => q.2, fun q => ⟨by (first | (simp; done) | (simp only [List.length_cons]; show (_ : Nat) < _; omega) | (show (3 : Nat) < _; simp only [List.length_cons]; omega)), q⟩⟩)
theorem x_astore_15n {a0 a1 a2 a3 a4 a5 a6 a7 a8 a9 a10 a11 a12 a13 a14 a15 : Option Value} {t : e_Lv} : e_exec g k o ((pc, .astore 15, n, tg) :: r) pe (a0 :: a1 :: a2 :: a3 :: a4 :: a5 :: a6 :: a7 :: a8 :: a9 :: a10 :: a11 :: a12 :: a13 :: a14 :: a15 :: t) (.null :: st) h J Ψ = e_exec g k o r pe (a0 :: a1 :: a2 :: a3 :: a4 :: a5 :: a6 :: a7 :: a8 :: a9 :: a10 :: a11 :: a12 :: a13 :: e_cl a14 :: some (.null) :: t) st h J Ψ := by (simp only [e_exec, e_step, e_p1i, e_p1a, e_p1l, e_sto, e_sto2, e_st2, e_st1]; exact propext ⟨fun q => q.2, fun q => ⟨by (first | (simp; done) | (simp only [List.length_cons]; show (_ : Nat) < _; omega) | (show (3 : Nat) < _; simp only [List.length_cons]; omega)), q⟩⟩)
theorem x_astore_15q {a0 a1 a2 a3 a4 a5 a6 a7 a8 a9 a10 a11 a12 a13 a14 a15 : Option Value} {t : e_Lv}{x : Option Nat} : e_exec g k o ((pc, .astore 15, n, tg) :: r) pe (a0 :: a1 :: a2 :: a3 :: a4 :: a5 :: a6 :: a7 :: a8 :: a9 :: a10 :: a11 :: a12 :: a13 :: a14 :: a15 :: t) (va_rf x :: st) h J Ψ = e_exec g k o r pe (a0 :: a1 :: a2 :: a3 :: a4 :: a5 :: a6 :: a7 :: a8 :: a9 :: a10 :: a11 :: a12 :: a13 :: e_cl a14 :: some (va_rf x) :: t) st h J Ψ := by (cases x <;> (simp only [e_exec, e_step, e_p1i, e_p1a, e_p1l, va_rf, e_sto, e_sto2, e_st2, e_st1]; exact propext ⟨fun q => q.2, fun q => ⟨by (first | (simp; done) | (simp only [List.length_cons]; show (_ : Nat) < _; omega) | (show (3 : Nat) < _; simp only [List.length_cons]; omega)), q⟩⟩))
theorem x_iinc_1_1 {a0 : Option Value} {t : e_Lv} {x : Int32} : e_exec g k o ((pc, .iinc 1 1, n, tg) :: r) pe (a0 :: some (.int x) :: t) st h J Ψ = e_exec g k o r pe (e_cl a0 :: some (.int (x + 1)) :: t) st h J Ψ := by (simp only [e_exec, e_step]; exact propext ⟨fun q => q.2, fun q => ⟨by (first | (simp; done) | (simp only [List.length_cons]; show (_ : Nat) < _; omega) | (show (3 : Nat) < _; simp only [List.length_cons]; omega)), q⟩⟩)
theorem x_iinc_2_m1 {a0 a1 : Option Value} {t : e_Lv} {x : Int32} : e_exec g k o ((pc, .iinc 2 (-1), n, tg) :: r) pe (a0 :: a1 :: some (.int x) :: t) st h J Ψ = e_exec g k o r pe (a0 :: e_cl a1 :: some (.int (x + (-1))) :: t) st h J Ψ := by (simp only [e_exec, e_step]; exact propext ⟨fun q => q.2, fun q => ⟨by (first | (simp; done) | (simp only [List.length_cons]; show (_ : Nat) < _; omega) | (show (3 : Nat) < _; simp only [List.length_cons]; omega)), q⟩⟩)
theorem x_iinc_2_1 {a0 a1 : Option Value} {t : e_Lv} {x : Int32} : e_exec g k o ((pc, .iinc 2 1, n, tg) :: r) pe (a0 :: a1 :: some (.int x) :: t) st h J Ψ = e_exec g k o r pe (a0 :: e_cl a1 :: some (.int (x + 1)) :: t) st h J Ψ := by (simp only [e_exec, e_step]; exact propext ⟨fun q => q.2, fun q => ⟨by (first | (simp; done) | (simp only [List.length_cons]; show (_ : Nat) < _; omega) | (show (3 : Nat) < _; simp only [List.length_cons]; omega)), q⟩⟩)
theorem x_iinc_3_m1 {a0 a1 a2 : Option Value} {t : e_Lv} {x : Int32} : e_exec g k o ((pc, .iinc 3 (-1), n, tg) :: r) pe (a0 :: a1 :: a2 :: some (.int x) :: t) st h J Ψ = e_exec g k o r pe (a0 :: a1 :: e_cl a2 :: some (.int (x + (-1))) :: t) st h J Ψ := by (simp only [e_exec, e_step]; exact propext ⟨fun q => q.2, fun q => ⟨by (first | (simp; done) | (simp only [List.length_cons]; show (_ : Nat) < _; omega) | (show (3 : Nat) < _; simp only [List.length_cons]; omega)), q⟩⟩)
theorem x_iinc_3_1 {a0 a1 a2 : Option Value} {t : e_Lv} {x : Int32} : e_exec g k o ((pc, .iinc 3 1, n, tg) :: r) pe (a0 :: a1 :: a2 :: some (.int x) :: t) st h J Ψ = e_exec g k o r pe (a0 :: a1 :: e_cl a2 :: some (.int (x + 1)) :: t) st h J Ψ := by (simp only [e_exec, e_step]; exact propext ⟨fun q => q.2, fun q => ⟨by (first | (simp; done) | (simp only [List.length_cons]; show (_ : Nat) < _; omega) | (show (3 : Nat) < _; simp only [List.length_cons]; omega)), q⟩⟩)
theorem x_iinc_4_m1 {a0 a1 a2 a3 : Option Value} {t : e_Lv} {x : Int32} : e_exec g k o ((pc, .iinc 4 (-1), n, tg) :: r) pe (a0 :: a1 :: a2 :: a3 :: some (.int x) :: t) st h J Ψ = e_exec g k o r pe (a0 :: a1 :: a2 :: e_cl a3 :: some (.int (x + (-1))) :: t) st h J Ψ := by (simp only [e_exec, e_step]; exact propext ⟨fun q => q.2, fun q => ⟨by (first | (simp; done) | (simp only [List.length_cons]; show (_ : Nat) < _; omega) | (show (3 : Nat) < _; simp only [List.length_cons]; omega)), q⟩⟩)
theorem x_iinc_4_1 {a0 a1 a2 a3 : Option Value} {t : e_Lv} {x : Int32} : e_exec g k o ((pc, .iinc 4 1, n, tg) :: r) pe (a0 :: a1 :: a2 :: a3 :: some (.int x) :: t) st h J Ψ = e_exec g k o r pe (a0 :: a1 :: a2 :: e_cl a3 :: some (.int (x + 1)) :: t) st h J Ψ := by (simp only [e_exec, e_step]; exact propext ⟨fun q => q.2, fun q => ⟨by (first | (simp; done) | (simp only [List.length_cons]; show (_ : Nat) < _; omega) | (show (3 : Nat) < _; simp only [List.length_cons]; omega)), q⟩⟩)
theorem x_iinc_5_m1 {a0 a1 a2 a3 a4 : Option Value} {t : e_Lv} {x : Int32} : e_exec g k o ((pc, .iinc 5 (-1), n, tg) :: r) pe (a0 :: a1 :: a2 :: a3 :: a4 :: some (.int x) :: t) st h J Ψ = e_exec g k o r pe (a0 :: a1 :: a2 :: a3 :: e_cl a4 :: some (.int (x + (-1))) :: t) st h J Ψ := by (simp only [e_exec, e_step]; exact propext ⟨fun q => q.2, fun q => ⟨by (first | (simp; done) | (simp only [List.length_cons]; show (_ : Nat) < _; omega) | (show (3 : Nat) < _; simp only [List.length_cons]; omega)), q⟩⟩)
theorem x_iinc_5_1 {a0 a1 a2 a3 a4 : Option Value} {t : e_Lv} {x : Int32} : e_exec g k o ((pc, .iinc 5 1, n, tg) :: r) pe (a0 :: a1 :: a2 :: a3 :: a4 :: some (.int x) :: t) st h J Ψ = e_exec g k o r pe (a0 :: a1 :: a2 :: a3 :: e_cl a4 :: some (.int (x + 1)) :: t) st h J Ψ := by (simp only [e_exec, e_step]; exact propext ⟨fun q => q.2, fun q => ⟨by (first | (simp; done) | (simp only [List.length_cons]; show (_ : Nat) < _; omega) | (show (3 : Nat) < _; simp only [List.length_cons]; omega)), q⟩⟩)
theorem x_iinc_6_1 {a0 a1 a2 a3 a4 a5 : Option Value} {t : e_Lv} {x : Int32} : e_exec g k o ((pc, .iinc 6 1, n, tg) :: r) pe (a0 :: a1 :: a2 :: a3 :: a4 :: a5 :: some (.int x) :: t) st h J Ψ = e_exec g k o r pe (a0 :: a1 :: a2 :: a3 :: a4 :: e_cl a5 :: some (.int (x + 1)) :: t) st h J Ψ := by (simp only [e_exec, e_step]; exact propext ⟨fun q => q.2, fun q => ⟨by (first | (simp; done) | (simp only [List.length_cons]; show (_ : Nat) < _; omega) | (show (3 : Nat) < _; simp only [List.length_cons]; omega)), q⟩⟩)
theorem x_iinc_7_1 {a0 a1 a2 a3 a4 a5 a6 : Option Value} {t : e_Lv} {x : Int32} : e_exec g k o ((pc, .iinc 7 1, n, tg) :: r) pe (a0 :: a1 :: a2 :: a3 :: a4 :: a5 :: a6 :: some (.int x) :: t) st h J Ψ = e_exec g k o r pe (a0 :: a1 :: a2 :: a3 :: a4 :: a5 :: e_cl a6 :: some (.int (x + 1)) :: t) st h J Ψ := by (simp only [e_exec, e_step]; exact propext ⟨fun q => q.2, fun q => ⟨by (first | (simp; done) | (simp only [List.length_cons]; show (_ : Nat) < _; omega) | (show (3 : Nat) < _; simp only [List.length_cons]; omega)), q⟩⟩)
theorem x_iinc_8_1 {a0 a1 a2 a3 a4 a5 a6 a7 : Option Value} {t : e_Lv} {x : Int32} : e_exec g k o ((pc, .iinc 8 1, n, tg) :: r) pe (a0 :: a1 :: a2 :: a3 :: a4 :: a5 :: a6 :: a7 :: some (.int x) :: t) st h J Ψ = e_exec g k o r pe (a0 :: a1 :: a2 :: a3 :: a4 :: a5 :: a6 :: e_cl a7 :: some (.int (x + 1)) :: t) st h J Ψ := by (simp only [e_exec, e_step]; exact propext ⟨fun q => q.2, fun q => ⟨by (first | (simp; done) | (simp only [List.length_cons]; show (_ : Nat) < _; omega) | (show (3 : Nat) < _; simp only [List.length_cons]; omega)), q⟩⟩)
theorem x_iadd {x y : Int32} : e_exec g k o ((pc, .iadd, n, tg) :: r) pe lv (.int y :: .int x :: st) h J Ψ = e_exec g k o r pe lv (.int (x + y) :: st) h J Ψ := by (simp only [e_exec, e_step] <;> rfl)
theorem x_isub {x y : Int32} : e_exec g k o ((pc, .isub, n, tg) :: r) pe lv (.int y :: .int x :: st) h J Ψ = e_exec g k o r pe lv (.int (x - y) :: st) h J Ψ := by (simp only [e_exec, e_step] <;> rfl)
theorem x_imul {x y : Int32} : e_exec g k o ((pc, .imul, n, tg) :: r) pe lv (.int y :: .int x :: st) h J Ψ = e_exec g k o r pe lv (.int (x * y) :: st) h J Ψ := by (simp only [e_exec, e_step] <;> rfl)
theorem x_iand {x y : Int32} : e_exec g k o ((pc, .iand, n, tg) :: r) pe lv (.int y :: .int x :: st) h J Ψ = e_exec g k o r pe lv (.int (x &&& y) :: st) h J Ψ := by (simp only [e_exec, e_step] <;> rfl)
theorem x_ior {x y : Int32} : e_exec g k o ((pc, .ior, n, tg) :: r) pe lv (.int y :: .int x :: st) h J Ψ = e_exec g k o r pe lv (.int (x ||| y) :: st) h J Ψ := by (simp only [e_exec, e_step] <;> rfl)
theorem x_ixor {x y : Int32} : e_exec g k o ((pc, .ixor, n, tg) :: r) pe lv (.int y :: .int x :: st) h J Ψ = e_exec g k o r pe lv (.int (x ^^^ y) :: st) h J Ψ := by (simp only [e_exec, e_step] <;> rfl)
theorem x_ishl {x y : Int32} : e_exec g k o ((pc, .ishl, n, tg) :: r) pe lv (.int y :: .int x :: st) h J Ψ = e_exec g k o r pe lv (.int (x <<< (y &&& 31)) :: st) h J Ψ := by (simp only [e_exec, e_step] <;> rfl)
theorem x_ishr {x y : Int32} : e_exec g k o ((pc, .ishr, n, tg) :: r) pe lv (.int y :: .int x :: st) h J Ψ = e_exec g k o r pe lv (.int (x >>> (y &&& 31)) :: st) h J Ψ := by (simp only [e_exec, e_step] <;> rfl)
theorem x_iushr {x y : Int32} : e_exec g k o ((pc, .iushr, n, tg) :: r) pe lv (.int y :: .int x :: st) h J Ψ = e_exec g k o r pe lv (.int ((x.toUInt32 >>> (y.toUInt32 &&& Int32.toUInt32 31)).toInt32) :: st) h J Ψ := by (simp only [e_exec, e_step] <;> rfl)
theorem x_idiv {x y : Int32} : e_exec g k o ((pc, .idiv, n, tg) :: r) pe lv (.int y :: .int x :: st) h J Ψ = (¬ y = 0 ∧ e_exec g k o r pe lv (.int (x / y) :: st) h J Ψ) := by (simp only [e_exec, e_step] <;> rfl)
theorem x_irem {x y : Int32} : e_exec g k o ((pc, .irem, n, tg) :: r) pe lv (.int y :: .int x :: st) h J Ψ = (¬ y = 0 ∧ e_exec g k o r pe lv (.int (x - x / y * y) :: st) h J Ψ) := by (simp only [e_exec, e_step] <;> rfl)
theorem x_ladd {x y : Int64} : e_exec g k o ((pc, .ladd, n, tg) :: r) pe lv (.long y :: .long x :: st) h J Ψ = e_exec g k o r pe lv (.long (x + y) :: st) h J Ψ := by (simp only [e_exec, e_step] <;> rfl)
theorem x_land {x y : Int64} : e_exec g k o ((pc, .land, n, tg) :: r) pe lv (.long y :: .long x :: st) h J Ψ = e_exec g k o r pe lv (.long (x &&& y) :: st) h J Ψ := by (simp only [e_exec, e_step] <;> rfl)
theorem x_lor {x y : Int64} : e_exec g k o ((pc, .lor, n, tg) :: r) pe lv (.long y :: .long x :: st) h J Ψ = e_exec g k o r pe lv (.long (x ||| y) :: st) h J Ψ := by (simp only [e_exec, e_step] <;> rfl)
theorem x_lcmp {x y : Int64} : e_exec g k o ((pc, .lcmp, n, tg) :: r) pe lv (.long y :: .long x :: st) h J Ψ = e_exec g k o r pe lv (.int (lg_cmp x y) :: st) h J Ψ := by (simp only [e_exec, e_step] <;> rfl)
theorem x_lshl {x : Int64} {y : Int32} : e_exec g k o ((pc, .lshl, n, tg) :: r) pe lv (.int y :: .long x :: st) h J Ψ = e_exec g k o r pe lv (.long (x <<< (y.toInt64 &&& 63)) :: st) h J Ψ := by (simp only [e_exec, e_step] <;> rfl)
theorem x_lshr {x : Int64} {y : Int32} : e_exec g k o ((pc, .lshr, n, tg) :: r) pe lv (.int y :: .long x :: st) h J Ψ = e_exec g k o r pe lv (.long (x >>> (y.toInt64 &&& 63)) :: st) h J Ψ := by (simp only [e_exec, e_step] <;> rfl)
theorem x_ineg {x : Int32} : e_exec g k o ((pc, .ineg, n, tg) :: r) pe lv (.int x :: st) h J Ψ = e_exec g k o r pe lv (.int (-x) :: st) h J Ψ := by (simp only [e_exec, e_step] <;> rfl)
theorem x_i2l {x : Int32} : e_exec g k o ((pc, .i2l, n, tg) :: r) pe lv (.int x :: st) h J Ψ = e_exec g k o r pe lv (.long x.toInt64 :: st) h J Ψ := by (simp only [e_exec, e_step] <;> rfl)
theorem x_l2i {x : Int64} : e_exec g k o ((pc, .l2i, n, tg) :: r) pe lv (.long x :: st) h J Ψ = e_exec g k o r pe lv (.int x.toInt32 :: st) h J Ψ := by (simp only [e_exec, e_step] <;> rfl)
theorem x_lneg {x : Int64} : e_exec g k o ((pc, .lneg, n, tg) :: r) pe lv (.long x :: st) h J Ψ = e_exec g k o r pe lv (.long (-x) :: st) h J Ψ := by (simp only [e_exec, e_step] <;> rfl)
theorem x_dup_i {x : Int32} : e_exec g k o ((pc, .dup, n, tg) :: r) pe lv (.int x :: st) h J Ψ = e_exec g k o r pe lv (.int x :: .int x :: st) h J Ψ := by (simp only [e_exec, e_step, e_p1, va_rf]; exact propext ⟨fun q => q.2, fun q => ⟨rfl, q⟩⟩)
theorem x_pop_i {x : Int32} : e_exec g k o ((pc, .pop, n, tg) :: r) pe lv (.int x :: st) h J Ψ = e_exec g k o r pe lv st h J Ψ := by (simp only [e_exec, e_step, e_p1, va_rf]; exact propext ⟨fun q => q.2, fun q => ⟨rfl, q⟩⟩)
theorem x_dup_r {x : Nat} : e_exec g k o ((pc, .dup, n, tg) :: r) pe lv (.ref x :: st) h J Ψ = e_exec g k o r pe lv (.ref x :: .ref x :: st) h J Ψ := by (simp only [e_exec, e_step, e_p1, va_rf]; exact propext ⟨fun q => q.2, fun q => ⟨rfl, q⟩⟩)
theorem x_pop_r {x : Nat} : e_exec g k o ((pc, .pop, n, tg) :: r) pe lv (.ref x :: st) h J Ψ = e_exec g k o r pe lv st h J Ψ := by (simp only [e_exec, e_step, e_p1, va_rf]; exact propext ⟨fun q => q.2, fun q => ⟨rfl, q⟩⟩)
theorem x_dup_n : e_exec g k o ((pc, .dup, n, tg) :: r) pe lv (.null :: st) h J Ψ = e_exec g k o r pe lv (.null :: .null :: st) h J Ψ := by (simp only [e_exec, e_step, e_p1, va_rf]; exact propext ⟨fun q => q.2, fun q => ⟨rfl, q⟩⟩)
theorem x_pop_n : e_exec g k o ((pc, .pop, n, tg) :: r) pe lv (.null :: st) h J Ψ = e_exec g k o r pe lv st h J Ψ := by (simp only [e_exec, e_step, e_p1, va_rf]; exact propext ⟨fun q => q.2, fun q => ⟨rfl, q⟩⟩)
theorem x_pop_q {x : Option Nat} : e_exec g k o ((pc, .pop, n, tg) :: r) pe lv (va_rf x :: st) h J Ψ = e_exec g k o r pe lv st h J Ψ := by (cases x <;> (simp only [e_exec, e_step, e_p1, va_rf]; exact propext ⟨fun q => q.2, fun q => ⟨rfl, q⟩⟩))
theorem x_dup2 {x : Int32} {a : Nat} : e_exec g k o ((pc, .dup2, n, tg) :: r) pe lv (.int x :: .ref a :: st) h J Ψ = e_exec g k o r pe lv (.int x :: .ref a :: .int x :: .ref a :: st) h J Ψ := by (simp only [e_exec, e_step, e_p1, va_rf]; exact propext ⟨fun q => q.2.2, fun q => ⟨rfl, rfl, q⟩⟩)
theorem x_goto {off : Int} {t : Nat} {ts : List Nat} : e_exec g k o ((pc, .goto off, n, (t :: ts)) :: r) pe lv st h J Ψ = J t lv st h := by (simp only [e_exec, e_step] <;> rfl)
theorem x_if_eq {x : Int32} {off : Int} {t : Nat} {ts : List Nat} : e_exec g k o ((pc, .ifCond .eq off, n, (t :: ts)) :: r) pe lv (.int x :: st) h J Ψ = ((x = 0 → J t lv st h) ∧ (¬ x = 0 → e_exec g k o r pe lv st h J Ψ)) := by (simp only [e_exec, e_step] <;> rfl)
theorem x_icmp_eq {x y : Int32} {off : Int} {t : Nat} {ts : List Nat} : e_exec g k o ((pc, .if_icmp .eq off, n, (t :: ts)) :: r) pe lv (.int y :: .int x :: st) h J Ψ = ((x = y → J t lv st h) ∧ (¬ x = y → e_exec g k o r pe lv st h J Ψ)) := by (simp only [e_exec, e_step] <;> rfl)
theorem x_if_ne {x : Int32} {off : Int} {t : Nat} {ts : List Nat} : e_exec g k o ((pc, .ifCond .ne off, n, (t :: ts)) :: r) pe lv (.int x :: st) h J Ψ = ((x = 0 → e_exec g k o r pe lv st h J Ψ) ∧ (¬ x = 0 → J t lv st h)) := by (simp only [e_exec, e_step, e_p1i, e_tg, e_cnd]; exact propext ⟨fun q => ⟨fun z => q.2 (fun y => y z), fun z => q.1 z⟩, fun q => ⟨fun z => q.2 z, fun z => q.1 (Decidable.not_not.mp z)⟩⟩)
theorem x_icmp_ne {x y : Int32} {off : Int} {t : Nat} {ts : List Nat} : e_exec g k o ((pc, .if_icmp .ne off, n, (t :: ts)) :: r) pe lv (.int y :: .int x :: st) h J Ψ = ((x = y → e_exec g k o r pe lv st h J Ψ) ∧ (¬ x = y → J t lv st h)) := by (simp only [e_exec, e_step, e_p1i, e_tg, e_cnd]; exact propext ⟨fun q => ⟨fun z => q.2 (fun y => y z), fun z => q.1 z⟩, fun q => ⟨fun z => q.2 z, fun z => q.1 (Decidable.not_not.mp z)⟩⟩)
theorem x_if_lt {x : Int32} {off : Int} {t : Nat} {ts : List Nat} : e_exec g k o ((pc, .ifCond .lt off, n, (t :: ts)) :: r) pe lv (.int x :: st) h J Ψ = ((x < 0 → J t lv st h) ∧ (¬ x < 0 → e_exec g k o r pe lv st h J Ψ)) := by (simp only [e_exec, e_step] <;> rfl)
theorem x_icmp_lt {x y : Int32} {off : Int} {t : Nat} {ts : List Nat} : e_exec g k o ((pc, .if_icmp .lt off, n, (t :: ts)) :: r) pe lv (.int y :: .int x :: st) h J Ψ = ((x < y → J t lv st h) ∧ (¬ x < y → e_exec g k o r pe lv st h J Ψ)) := by (simp only [e_exec, e_step] <;> rfl)
theorem x_if_ge {x : Int32} {off : Int} {t : Nat} {ts : List Nat} : e_exec g k o ((pc, .ifCond .ge off, n, (t :: ts)) :: r) pe lv (.int x :: st) h J Ψ = ((0 ≤ x → J t lv st h) ∧ (¬ 0 ≤ x → e_exec g k o r pe lv st h J Ψ)) := by (simp only [e_exec, e_step] <;> rfl)
theorem x_icmp_ge {x y : Int32} {off : Int} {t : Nat} {ts : List Nat} : e_exec g k o ((pc, .if_icmp .ge off, n, (t :: ts)) :: r) pe lv (.int y :: .int x :: st) h J Ψ = ((y ≤ x → J t lv st h) ∧ (¬ y ≤ x → e_exec g k o r pe lv st h J Ψ)) := by (simp only [e_exec, e_step] <;> rfl)
theorem x_if_gt {x : Int32} {off : Int} {t : Nat} {ts : List Nat} : e_exec g k o ((pc, .ifCond .gt off, n, (t :: ts)) :: r) pe lv (.int x :: st) h J Ψ = ((0 < x → J t lv st h) ∧ (¬ 0 < x → e_exec g k o r pe lv st h J Ψ)) := by (simp only [e_exec, e_step] <;> rfl)
theorem x_icmp_gt {x y : Int32} {off : Int} {t : Nat} {ts : List Nat} : e_exec g k o ((pc, .if_icmp .gt off, n, (t :: ts)) :: r) pe lv (.int y :: .int x :: st) h J Ψ = ((y < x → J t lv st h) ∧ (¬ y < x → e_exec g k o r pe lv st h J Ψ)) := by (simp only [e_exec, e_step] <;> rfl)
theorem x_if_le {x : Int32} {off : Int} {t : Nat} {ts : List Nat} : e_exec g k o ((pc, .ifCond .le off, n, (t :: ts)) :: r) pe lv (.int x :: st) h J Ψ = ((x ≤ 0 → J t lv st h) ∧ (¬ x ≤ 0 → e_exec g k o r pe lv st h J Ψ)) := by (simp only [e_exec, e_step] <;> rfl)
theorem x_icmp_le {x y : Int32} {off : Int} {t : Nat} {ts : List Nat} : e_exec g k o ((pc, .if_icmp .le off, n, (t :: ts)) :: r) pe lv (.int y :: .int x :: st) h J Ψ = ((x ≤ y → J t lv st h) ∧ (¬ x ≤ y → e_exec g k o r pe lv st h J Ψ)) := by (simp only [e_exec, e_step] <;> rfl)
theorem x_ifnull_n {off : Int} {t : Nat} {ts : List Nat} : e_exec g k o ((pc, .ifnull off, n, (t :: ts)) :: r) pe lv (.null :: st) h J Ψ = J t lv st h := by (simp only [e_exec, e_step] <;> rfl)
theorem x_ifnull_r {x : Nat} {off : Int} {t : Nat} {ts : List Nat} : e_exec g k o ((pc, .ifnull off, n, (t :: ts)) :: r) pe lv (.ref x :: st) h J Ψ = e_exec g k o r pe lv st h J Ψ := by (simp only [e_exec, e_step] <;> rfl)
theorem x_ifnull_q {x : Option Nat} {off : Int} {t : Nat} {ts : List Nat} : e_exec g k o ((pc, .ifnull off, n, (t :: ts)) :: r) pe lv (va_rf x :: st) h J Ψ = ((x = none → J t lv st h) ∧ (¬ x = none → e_exec g k o r pe lv st h J Ψ)) := by (cases x <;> (simp only [e_exec, e_step, va_rf]; simp [e_nul, e_tg]))
theorem x_ifnonnull_n {off : Int} {t : Nat} {ts : List Nat} : e_exec g k o ((pc, .ifnonnull off, n, (t :: ts)) :: r) pe lv (.null :: st) h J Ψ = e_exec g k o r pe lv st h J Ψ := by (simp only [e_exec, e_step] <;> rfl)
theorem x_ifnonnull_r {x : Nat} {off : Int} {t : Nat} {ts : List Nat} : e_exec g k o ((pc, .ifnonnull off, n, (t :: ts)) :: r) pe lv (.ref x :: st) h J Ψ = J t lv st h := by (simp only [e_exec, e_step] <;> rfl)
theorem x_ifnonnull_q {x : Option Nat} {off : Int} {t : Nat} {ts : List Nat} : e_exec g k o ((pc, .ifnonnull off, n, (t :: ts)) :: r) pe lv (va_rf x :: st) h J Ψ = ((x = none → e_exec g k o r pe lv st h J Ψ) ∧ (¬ x = none → J t lv st h)) := by (cases x <;> (simp only [e_exec, e_step, va_rf]; simp [e_nul, e_tg]))
theorem x_acmp_ne {x y : Option Nat} {off : Int} {t : Nat} {ts : List Nat} : e_exec g k o ((pc, .if_acmp .ne off, n, (t :: ts)) :: r) pe lv (va_rf y :: va_rf x :: st) h J Ψ = ((x = y → e_exec g k o r pe lv st h J Ψ) ∧ (¬ x = y → J t lv st h)) := by (cases x <;> cases y <;> (simp [e_exec, e_step, e_p1a, e_tg, va_rf, and_comm]))
theorem x_acmp_ner {x y : Nat} {off : Int} {t : Nat} {ts : List Nat} : e_exec g k o ((pc, .if_acmp .ne off, n, (t :: ts)) :: r) pe lv (.ref y :: .ref x :: st) h J Ψ = ((x = y → e_exec g k o r pe lv st h J Ψ) ∧ (¬ x = y → J t lv st h)) := by (simp [e_exec, e_step, e_p1a, e_tg, and_comm])
theorem x_tsw {x : Int32} {d lo hi : Int} {offs : Array Int} {t : Nat} {ts : List Nat} : e_exec g k o ((pc, .tableswitch d lo hi offs, n, (t :: ts)) :: r) pe lv (.int x :: st) h J Ψ = ((x.toInt < lo ∨ hi < x.toInt → J t lv st h) ∧ e_sw x lo ts (fun t => J t lv st h)) := by (simp only [e_exec, e_step] <;> rfl)
theorem x_sw0 {x : Int32} {v : Int} {J : Nat → Prop} : e_sw x v [] J = True := id rfl
theorem x_swc {x : Int32} {v : Int} {t : Nat} {ts : List Nat} {J : Nat → Prop} : e_sw x v (t :: ts) J = ((x.toInt = v → J t) ∧ e_sw x (v + 1) ts J) := id rfl
theorem x_tim1 {x : Int32} : (x.toInt = (-1)) = (x = (-1)) := propext (by rw [show ((-1) : Int) = ((-1) : Int32).toInt by decide]; exact Int32.toInt_inj)
theorem x_tlm1 {x : Int32} : (x.toInt < (-1)) = (x < (-1)) := propext (by rw [show ((-1) : Int) = ((-1) : Int32).toInt by decide]; exact Int32.lt_iff_toInt_lt.symm)
theorem x_tgm1 {x : Int32} : ((-1) < x.toInt) = ((-1) < x) := propext (by rw [show ((-1) : Int) = ((-1) : Int32).toInt by decide]; exact Int32.lt_iff_toInt_lt.symm)
theorem x_ti0 {x : Int32} : (x.toInt = 0) = (x = 0) := propext (by rw [show (0 : Int) = (0 : Int32).toInt by decide]; exact Int32.toInt_inj)
theorem x_tl0 {x : Int32} : (x.toInt < 0) = (x < 0) := propext (by rw [show (0 : Int) = (0 : Int32).toInt by decide]; exact Int32.lt_iff_toInt_lt.symm)
theorem x_tg0 {x : Int32} : (0 < x.toInt) = (0 < x) := propext (by rw [show (0 : Int) = (0 : Int32).toInt by decide]; exact Int32.lt_iff_toInt_lt.symm)
theorem x_ti1 {x : Int32} : (x.toInt = 1) = (x = 1) := propext (by rw [show (1 : Int) = (1 : Int32).toInt by decide]; exact Int32.toInt_inj)
theorem x_tl1 {x : Int32} : (x.toInt < 1) = (x < 1) := propext (by rw [show (1 : Int) = (1 : Int32).toInt by decide]; exact Int32.lt_iff_toInt_lt.symm)
theorem x_tg1 {x : Int32} : (1 < x.toInt) = (1 < x) := propext (by rw [show (1 : Int) = (1 : Int32).toInt by decide]; exact Int32.lt_iff_toInt_lt.symm)
theorem x_ti2 {x : Int32} : (x.toInt = 2) = (x = 2) := propext (by rw [show (2 : Int) = (2 : Int32).toInt by decide]; exact Int32.toInt_inj)
theorem x_tl2 {x : Int32} : (x.toInt < 2) = (x < 2) := propext (by rw [show (2 : Int) = (2 : Int32).toInt by decide]; exact Int32.lt_iff_toInt_lt.symm)
theorem x_tg2 {x : Int32} : (2 < x.toInt) = (2 < x) := propext (by rw [show (2 : Int) = (2 : Int32).toInt by decide]; exact Int32.lt_iff_toInt_lt.symm)
theorem x_ti3 {x : Int32} : (x.toInt = 3) = (x = 3) := propext (by rw [show (3 : Int) = (3 : Int32).toInt by decide]; exact Int32.toInt_inj)
theorem x_tl3 {x : Int32} : (x.toInt < 3) = (x < 3) := propext (by rw [show (3 : Int) = (3 : Int32).toInt by decide]; exact Int32.lt_iff_toInt_lt.symm)
theorem x_tg3 {x : Int32} : (3 < x.toInt) = (3 < x) := propext (by rw [show (3 : Int) = (3 : Int32).toInt by decide]; exact Int32.lt_iff_toInt_lt.symm)
theorem x_ti4 {x : Int32} : (x.toInt = 4) = (x = 4) := propext (by rw [show (4 : Int) = (4 : Int32).toInt by decide]; exact Int32.toInt_inj)
theorem x_tl4 {x : Int32} : (x.toInt < 4) = (x < 4) := propext (by rw [show (4 : Int) = (4 : Int32).toInt by decide]; exact Int32.lt_iff_toInt_lt.symm)
theorem x_tg4 {x : Int32} : (4 < x.toInt) = (4 < x) := propext (by rw [show (4 : Int) = (4 : Int32).toInt by decide]; exact Int32.lt_iff_toInt_lt.symm)
theorem x_ti5 {x : Int32} : (x.toInt = 5) = (x = 5) := propext (by rw [show (5 : Int) = (5 : Int32).toInt by decide]; exact Int32.toInt_inj)
theorem x_tl5 {x : Int32} : (x.toInt < 5) = (x < 5) := propext (by rw [show (5 : Int) = (5 : Int32).toInt by decide]; exact Int32.lt_iff_toInt_lt.symm)
theorem x_tg5 {x : Int32} : (5 < x.toInt) = (5 < x) := propext (by rw [show (5 : Int) = (5 : Int32).toInt by decide]; exact Int32.lt_iff_toInt_lt.symm)
theorem x_ti6 {x : Int32} : (x.toInt = 6) = (x = 6) := propext (by rw [show (6 : Int) = (6 : Int32).toInt by decide]; exact Int32.toInt_inj)
theorem x_tl6 {x : Int32} : (x.toInt < 6) = (x < 6) := propext (by rw [show (6 : Int) = (6 : Int32).toInt by decide]; exact Int32.lt_iff_toInt_lt.symm)
theorem x_tg6 {x : Int32} : (6 < x.toInt) = (6 < x) := propext (by rw [show (6 : Int) = (6 : Int32).toInt by decide]; exact Int32.lt_iff_toInt_lt.symm)
theorem x_ti7 {x : Int32} : (x.toInt = 7) = (x = 7) := propext (by rw [show (7 : Int) = (7 : Int32).toInt by decide]; exact Int32.toInt_inj)
theorem x_tl7 {x : Int32} : (x.toInt < 7) = (x < 7) := propext (by rw [show (7 : Int) = (7 : Int32).toInt by decide]; exact Int32.lt_iff_toInt_lt.symm)
theorem x_tg7 {x : Int32} : (7 < x.toInt) = (7 < x) := propext (by rw [show (7 : Int) = (7 : Int32).toInt by decide]; exact Int32.lt_iff_toInt_lt.symm)
theorem x_ti8 {x : Int32} : (x.toInt = 8) = (x = 8) := propext (by rw [show (8 : Int) = (8 : Int32).toInt by decide]; exact Int32.toInt_inj)
theorem x_tl8 {x : Int32} : (x.toInt < 8) = (x < 8) := propext (by rw [show (8 : Int) = (8 : Int32).toInt by decide]; exact Int32.lt_iff_toInt_lt.symm)
theorem x_tg8 {x : Int32} : (8 < x.toInt) = (8 < x) := propext (by rw [show (8 : Int) = (8 : Int32).toInt by decide]; exact Int32.lt_iff_toInt_lt.symm)
theorem x_ti9 {x : Int32} : (x.toInt = 9) = (x = 9) := propext (by rw [show (9 : Int) = (9 : Int32).toInt by decide]; exact Int32.toInt_inj)
theorem x_tl9 {x : Int32} : (x.toInt < 9) = (x < 9) := propext (by rw [show (9 : Int) = (9 : Int32).toInt by decide]; exact Int32.lt_iff_toInt_lt.symm)
theorem x_tg9 {x : Int32} : (9 < x.toInt) = (9 < x) := propext (by rw [show (9 : Int) = (9 : Int32).toInt by decide]; exact Int32.lt_iff_toInt_lt.symm)
theorem x_ti10 {x : Int32} : (x.toInt = 10) = (x = 10) := propext (by rw [show (10 : Int) = (10 : Int32).toInt by decide]; exact Int32.toInt_inj)
theorem x_tl10 {x : Int32} : (x.toInt < 10) = (x < 10) := propext (by rw [show (10 : Int) = (10 : Int32).toInt by decide]; exact Int32.lt_iff_toInt_lt.symm)
theorem x_tg10 {x : Int32} : (10 < x.toInt) = (10 < x) := propext (by rw [show (10 : Int) = (10 : Int32).toInt by decide]; exact Int32.lt_iff_toInt_lt.symm)
theorem x_ti11 {x : Int32} : (x.toInt = 11) = (x = 11) := propext (by rw [show (11 : Int) = (11 : Int32).toInt by decide]; exact Int32.toInt_inj)
theorem x_tl11 {x : Int32} : (x.toInt < 11) = (x < 11) := propext (by rw [show (11 : Int) = (11 : Int32).toInt by decide]; exact Int32.lt_iff_toInt_lt.symm)
theorem x_tg11 {x : Int32} : (11 < x.toInt) = (11 < x) := propext (by rw [show (11 : Int) = (11 : Int32).toInt by decide]; exact Int32.lt_iff_toInt_lt.symm)
theorem x_ti12 {x : Int32} : (x.toInt = 12) = (x = 12) := propext (by rw [show (12 : Int) = (12 : Int32).toInt by decide]; exact Int32.toInt_inj)
theorem x_tl12 {x : Int32} : (x.toInt < 12) = (x < 12) := propext (by rw [show (12 : Int) = (12 : Int32).toInt by decide]; exact Int32.lt_iff_toInt_lt.symm)
theorem x_tg12 {x : Int32} : (12 < x.toInt) = (12 < x) := propext (by rw [show (12 : Int) = (12 : Int32).toInt by decide]; exact Int32.lt_iff_toInt_lt.symm)
theorem x_ti13 {x : Int32} : (x.toInt = 13) = (x = 13) := propext (by rw [show (13 : Int) = (13 : Int32).toInt by decide]; exact Int32.toInt_inj)
theorem x_tl13 {x : Int32} : (x.toInt < 13) = (x < 13) := propext (by rw [show (13 : Int) = (13 : Int32).toInt by decide]; exact Int32.lt_iff_toInt_lt.symm)
theorem x_tg13 {x : Int32} : (13 < x.toInt) = (13 < x) := propext (by rw [show (13 : Int) = (13 : Int32).toInt by decide]; exact Int32.lt_iff_toInt_lt.symm)
theorem x_ti14 {x : Int32} : (x.toInt = 14) = (x = 14) := propext (by rw [show (14 : Int) = (14 : Int32).toInt by decide]; exact Int32.toInt_inj)
theorem x_tl14 {x : Int32} : (x.toInt < 14) = (x < 14) := propext (by rw [show (14 : Int) = (14 : Int32).toInt by decide]; exact Int32.lt_iff_toInt_lt.symm)
theorem x_tg14 {x : Int32} : (14 < x.toInt) = (14 < x) := propext (by rw [show (14 : Int) = (14 : Int32).toInt by decide]; exact Int32.lt_iff_toInt_lt.symm)
theorem x_ti15 {x : Int32} : (x.toInt = 15) = (x = 15) := propext (by rw [show (15 : Int) = (15 : Int32).toInt by decide]; exact Int32.toInt_inj)
theorem x_tl15 {x : Int32} : (x.toInt < 15) = (x < 15) := propext (by rw [show (15 : Int) = (15 : Int32).toInt by decide]; exact Int32.lt_iff_toInt_lt.symm)
theorem x_tg15 {x : Int32} : (15 < x.toInt) = (15 < x) := propext (by rw [show (15 : Int) = (15 : Int32).toInt by decide]; exact Int32.lt_iff_toInt_lt.symm)
theorem x_ti16 {x : Int32} : (x.toInt = 16) = (x = 16) := propext (by rw [show (16 : Int) = (16 : Int32).toInt by decide]; exact Int32.toInt_inj)
theorem x_tl16 {x : Int32} : (x.toInt < 16) = (x < 16) := propext (by rw [show (16 : Int) = (16 : Int32).toInt by decide]; exact Int32.lt_iff_toInt_lt.symm)
theorem x_tg16 {x : Int32} : (16 < x.toInt) = (16 < x) := propext (by rw [show (16 : Int) = (16 : Int32).toInt by decide]; exact Int32.lt_iff_toInt_lt.symm)
theorem x_ti17 {x : Int32} : (x.toInt = 17) = (x = 17) := propext (by rw [show (17 : Int) = (17 : Int32).toInt by decide]; exact Int32.toInt_inj)
theorem x_tl17 {x : Int32} : (x.toInt < 17) = (x < 17) := propext (by rw [show (17 : Int) = (17 : Int32).toInt by decide]; exact Int32.lt_iff_toInt_lt.symm)
theorem x_tg17 {x : Int32} : (17 < x.toInt) = (17 < x) := propext (by rw [show (17 : Int) = (17 : Int32).toInt by decide]; exact Int32.lt_iff_toInt_lt.symm)
theorem x_ti18 {x : Int32} : (x.toInt = 18) = (x = 18) := propext (by rw [show (18 : Int) = (18 : Int32).toInt by decide]; exact Int32.toInt_inj)
theorem x_tl18 {x : Int32} : (x.toInt < 18) = (x < 18) := propext (by rw [show (18 : Int) = (18 : Int32).toInt by decide]; exact Int32.lt_iff_toInt_lt.symm)
theorem x_tg18 {x : Int32} : (18 < x.toInt) = (18 < x) := propext (by rw [show (18 : Int) = (18 : Int32).toInt by decide]; exact Int32.lt_iff_toInt_lt.symm)
theorem x_ti19 {x : Int32} : (x.toInt = 19) = (x = 19) := propext (by rw [show (19 : Int) = (19 : Int32).toInt by decide]; exact Int32.toInt_inj)
theorem x_tl19 {x : Int32} : (x.toInt < 19) = (x < 19) := propext (by rw [show (19 : Int) = (19 : Int32).toInt by decide]; exact Int32.lt_iff_toInt_lt.symm)
theorem x_tg19 {x : Int32} : (19 < x.toInt) = (19 < x) := propext (by rw [show (19 : Int) = (19 : Int32).toInt by decide]; exact Int32.lt_iff_toInt_lt.symm)
theorem x_ti20 {x : Int32} : (x.toInt = 20) = (x = 20) := propext (by rw [show (20 : Int) = (20 : Int32).toInt by decide]; exact Int32.toInt_inj)
theorem x_tl20 {x : Int32} : (x.toInt < 20) = (x < 20) := propext (by rw [show (20 : Int) = (20 : Int32).toInt by decide]; exact Int32.lt_iff_toInt_lt.symm)
theorem x_tg20 {x : Int32} : (20 < x.toInt) = (20 < x) := propext (by rw [show (20 : Int) = (20 : Int32).toInt by decide]; exact Int32.lt_iff_toInt_lt.symm)
theorem x_ti21 {x : Int32} : (x.toInt = 21) = (x = 21) := propext (by rw [show (21 : Int) = (21 : Int32).toInt by decide]; exact Int32.toInt_inj)
theorem x_tl21 {x : Int32} : (x.toInt < 21) = (x < 21) := propext (by rw [show (21 : Int) = (21 : Int32).toInt by decide]; exact Int32.lt_iff_toInt_lt.symm)
theorem x_tg21 {x : Int32} : (21 < x.toInt) = (21 < x) := propext (by rw [show (21 : Int) = (21 : Int32).toInt by decide]; exact Int32.lt_iff_toInt_lt.symm)
theorem x_ti22 {x : Int32} : (x.toInt = 22) = (x = 22) := propext (by rw [show (22 : Int) = (22 : Int32).toInt by decide]; exact Int32.toInt_inj)
theorem x_tl22 {x : Int32} : (x.toInt < 22) = (x < 22) := propext (by rw [show (22 : Int) = (22 : Int32).toInt by decide]; exact Int32.lt_iff_toInt_lt.symm)
theorem x_tg22 {x : Int32} : (22 < x.toInt) = (22 < x) := propext (by rw [show (22 : Int) = (22 : Int32).toInt by decide]; exact Int32.lt_iff_toInt_lt.symm)
theorem x_ti23 {x : Int32} : (x.toInt = 23) = (x = 23) := propext (by rw [show (23 : Int) = (23 : Int32).toInt by decide]; exact Int32.toInt_inj)
theorem x_tl23 {x : Int32} : (x.toInt < 23) = (x < 23) := propext (by rw [show (23 : Int) = (23 : Int32).toInt by decide]; exact Int32.lt_iff_toInt_lt.symm)
theorem x_tg23 {x : Int32} : (23 < x.toInt) = (23 < x) := propext (by rw [show (23 : Int) = (23 : Int32).toInt by decide]; exact Int32.lt_iff_toInt_lt.symm)
theorem x_ti24 {x : Int32} : (x.toInt = 24) = (x = 24) := propext (by rw [show (24 : Int) = (24 : Int32).toInt by decide]; exact Int32.toInt_inj)
theorem x_tl24 {x : Int32} : (x.toInt < 24) = (x < 24) := propext (by rw [show (24 : Int) = (24 : Int32).toInt by decide]; exact Int32.lt_iff_toInt_lt.symm)
theorem x_tg24 {x : Int32} : (24 < x.toInt) = (24 < x) := propext (by rw [show (24 : Int) = (24 : Int32).toInt by decide]; exact Int32.lt_iff_toInt_lt.symm)
theorem x_ti25 {x : Int32} : (x.toInt = 25) = (x = 25) := propext (by rw [show (25 : Int) = (25 : Int32).toInt by decide]; exact Int32.toInt_inj)
theorem x_tl25 {x : Int32} : (x.toInt < 25) = (x < 25) := propext (by rw [show (25 : Int) = (25 : Int32).toInt by decide]; exact Int32.lt_iff_toInt_lt.symm)
theorem x_tg25 {x : Int32} : (25 < x.toInt) = (25 < x) := propext (by rw [show (25 : Int) = (25 : Int32).toInt by decide]; exact Int32.lt_iff_toInt_lt.symm)
theorem x_ti26 {x : Int32} : (x.toInt = 26) = (x = 26) := propext (by rw [show (26 : Int) = (26 : Int32).toInt by decide]; exact Int32.toInt_inj)
theorem x_tl26 {x : Int32} : (x.toInt < 26) = (x < 26) := propext (by rw [show (26 : Int) = (26 : Int32).toInt by decide]; exact Int32.lt_iff_toInt_lt.symm)
theorem x_tg26 {x : Int32} : (26 < x.toInt) = (26 < x) := propext (by rw [show (26 : Int) = (26 : Int32).toInt by decide]; exact Int32.lt_iff_toInt_lt.symm)
theorem x_ti27 {x : Int32} : (x.toInt = 27) = (x = 27) := propext (by rw [show (27 : Int) = (27 : Int32).toInt by decide]; exact Int32.toInt_inj)
theorem x_tl27 {x : Int32} : (x.toInt < 27) = (x < 27) := propext (by rw [show (27 : Int) = (27 : Int32).toInt by decide]; exact Int32.lt_iff_toInt_lt.symm)
theorem x_tg27 {x : Int32} : (27 < x.toInt) = (27 < x) := propext (by rw [show (27 : Int) = (27 : Int32).toInt by decide]; exact Int32.lt_iff_toInt_lt.symm)
theorem x_ti28 {x : Int32} : (x.toInt = 28) = (x = 28) := propext (by rw [show (28 : Int) = (28 : Int32).toInt by decide]; exact Int32.toInt_inj)
theorem x_tl28 {x : Int32} : (x.toInt < 28) = (x < 28) := propext (by rw [show (28 : Int) = (28 : Int32).toInt by decide]; exact Int32.lt_iff_toInt_lt.symm)
theorem x_tg28 {x : Int32} : (28 < x.toInt) = (28 < x) := propext (by rw [show (28 : Int) = (28 : Int32).toInt by decide]; exact Int32.lt_iff_toInt_lt.symm)
theorem x_ti29 {x : Int32} : (x.toInt = 29) = (x = 29) := propext (by rw [show (29 : Int) = (29 : Int32).toInt by decide]; exact Int32.toInt_inj)
theorem x_tl29 {x : Int32} : (x.toInt < 29) = (x < 29) := propext (by rw [show (29 : Int) = (29 : Int32).toInt by decide]; exact Int32.lt_iff_toInt_lt.symm)
theorem x_tg29 {x : Int32} : (29 < x.toInt) = (29 < x) := propext (by rw [show (29 : Int) = (29 : Int32).toInt by decide]; exact Int32.lt_iff_toInt_lt.symm)
theorem x_ti30 {x : Int32} : (x.toInt = 30) = (x = 30) := propext (by rw [show (30 : Int) = (30 : Int32).toInt by decide]; exact Int32.toInt_inj)
theorem x_tl30 {x : Int32} : (x.toInt < 30) = (x < 30) := propext (by rw [show (30 : Int) = (30 : Int32).toInt by decide]; exact Int32.lt_iff_toInt_lt.symm)
theorem x_tg30 {x : Int32} : (30 < x.toInt) = (30 < x) := propext (by rw [show (30 : Int) = (30 : Int32).toInt by decide]; exact Int32.lt_iff_toInt_lt.symm)
theorem x_ti31 {x : Int32} : (x.toInt = 31) = (x = 31) := propext (by rw [show (31 : Int) = (31 : Int32).toInt by decide]; exact Int32.toInt_inj)
theorem x_tl31 {x : Int32} : (x.toInt < 31) = (x < 31) := propext (by rw [show (31 : Int) = (31 : Int32).toInt by decide]; exact Int32.lt_iff_toInt_lt.symm)
theorem x_tg31 {x : Int32} : (31 < x.toInt) = (31 < x) := propext (by rw [show (31 : Int) = (31 : Int32).toInt by decide]; exact Int32.lt_iff_toInt_lt.symm)
theorem x_getfield {x a : Nat} : e_exec g k o ((pc, .getfield x, n, tg) :: r) pe lv (.ref a :: st) h J Ψ = e_om (e_FT o x) (fun c => e_gO h a c.1 (fun V => e_exec g k o r pe lv (V c.2.1 :: st) h J Ψ)) := by (simp only [e_exec, e_step] <;> rfl)
theorem x_putfield {x a : Nat} {v : Value} : e_exec g k o ((pc, .putfield x, n, tg) :: r) pe lv (v :: .ref a :: st) h J Ψ = e_om (e_FT o x) (fun c => e_fit c.2.2 v ∧ e_gO h a c.1 (fun V => e_exec g k o r pe lv st (e_wr h a (e_O c.1 (va_up V c.2.1 v))) J Ψ)) := by (simp only [e_exec, e_step] <;> rfl)
theorem x_om {α : Type} {v : α} {kk : α → Prop} : e_om (some v) kk = kk v := id rfl
theorem x_fit0 {x : Int32} : e_fit 0 (.int x) = True := id rfl
theorem x_fit1 {x : Int32} : e_fit 1 (.int x) = (x = 0 ∨ x = 1) := id rfl
theorem x_fit2r {x : Nat} : e_fit 2 (.ref x) = True := id rfl
theorem x_fit2n : e_fit 2 .null = True := id rfl
theorem x_fit2q {x : Option Nat} : e_fit 2 (va_rf x) = True := by cases x <;> rfl
theorem x_iaload {i : Int32} {a : Nat} : e_exec g k o ((pc, .iaload, n, tg) :: r) pe lv (.int i :: .ref a :: st) h J Ψ = e_gI h a 0 (fun m f => vp_in i m ∧ e_exec g k o r pe lv (.int (f i.toNatClampNeg) :: st) h J Ψ) := by (simp only [e_exec, e_step] <;> rfl)
theorem x_baload {i : Int32} {a : Nat} : e_exec g k o ((pc, .baload, n, tg) :: r) pe lv (.int i :: .ref a :: st) h J Ψ = e_gI h a 1 (fun m f => vp_in i m ∧ e_exec g k o r pe lv (.int (f i.toNatClampNeg) :: st) h J Ψ) := by (simp only [e_exec, e_step] <;> rfl)
theorem x_iastore {x i : Int32} {a : Nat} : e_exec g k o ((pc, .iastore, n, tg) :: r) pe lv (.int x :: .int i :: .ref a :: st) h J Ψ = e_gI h a 0 (fun m f => vp_in i m ∧ e_exec g k o r pe lv st (e_wr h a (e_I 0 m (va_up f i.toNatClampNeg x))) J Ψ) := by (simp only [e_exec, e_step] <;> rfl)
theorem x_bastore {x i : Int32} {a : Nat} : e_exec g k o ((pc, .bastore, n, tg) :: r) pe lv (.int x :: .int i :: .ref a :: st) h J Ψ = ((x = 0 ∨ x = 1) ∧ e_gI h a 1 (fun m f => vp_in i m ∧ e_exec g k o r pe lv st (e_wr h a (e_I 1 m (va_up f i.toNatClampNeg x))) J Ψ)) := by (simp only [e_exec, e_step] <;> rfl)
theorem x_aaload {i : Int32} {a : Nat} : e_exec g k o ((pc, .aaload, n, tg) :: r) pe lv (.int i :: .ref a :: st) h J Ψ = e_gR h a (fun t m f => (t = 2 ∨ t = 3) ∧ vp_in i m ∧ e_exec g k o r pe lv (va_rf (f i.toNatClampNeg) :: st) h J Ψ) := by (simp only [e_exec, e_step] <;> rfl)
theorem x_aastore {i : Int32} {a v : Nat} : e_exec g k o ((pc, .aastore, n, tg) :: r) pe lv (.ref v :: .int i :: .ref a :: st) h J Ψ = e_gR h a (fun t m f => (t = 2 ∨ t = 3) ∧ e_gO h v (e_ec t) (fun _ => vp_in i m ∧ e_exec g k o r pe lv st (e_wr h a (e_R t m (va_up f i.toNatClampNeg (some v)))) J Ψ)) := by (simp only [e_exec, e_step] <;> rfl)
theorem x_alen {a : Nat} : e_exec g k o ((pc, .arraylength, n, tg) :: r) pe lv (.ref a :: st) h J Ψ = e_gl h a (fun m => e_exec g k o r pe lv (.int (Int32.ofNat m) :: st) h J Ψ) := by (simp only [e_exec, e_step] <;> rfl)
theorem x_newarray_int {m : Int32} : e_exec g k o ((pc, .newarray .int, n, tg) :: r) pe lv (.int m :: st) h J Ψ = (¬ m < 0 ∧ m.toNatClampNeg ≤ 65536 ∧ e_exec g k o r pe lv (.ref h.2.1 :: st) (e_al h (e_I 0 m.toNatClampNeg (fun _ => 0)) m.toNatClampNeg) J Ψ) := by (simp only [e_exec, e_step] <;> rfl)
theorem x_newarray_boolean {m : Int32} : e_exec g k o ((pc, .newarray .boolean, n, tg) :: r) pe lv (.int m :: st) h J Ψ = (¬ m < 0 ∧ m.toNatClampNeg ≤ 65536 ∧ e_exec g k o r pe lv (.ref h.2.1 :: st) (e_al h (e_I 1 m.toNatClampNeg (fun _ => 0)) m.toNatClampNeg) J Ψ) := by (simp only [e_exec, e_step] <;> rfl)
theorem x_anewarray {m : Int32} {x : Nat} : e_exec g k o ((pc, .anewarray x, n, tg) :: r) pe lv (.int m :: st) h J Ψ = e_om (e_CT o x) (fun ci => e_an ci (fun t => ¬ m < 0 ∧ m.toNatClampNeg ≤ 65536 ∧ e_exec g k o r pe lv (.ref h.2.1 :: st) (e_al h (e_R t m.toNatClampNeg (fun _ => none)) m.toNatClampNeg) J Ψ)) := by (simp only [e_exec, e_step] <;> rfl)
theorem x_an11 {kk : Nat → Prop} : e_an 11 kk = kk 2 := id rfl
theorem x_an9 {kk : Nat → Prop} : e_an 9 kk = kk 3 := id rfl
theorem x_new {x : Nat} : e_exec g k o ((pc, .new x, n, tg) :: r) pe lv st h J Ψ = e_om (e_CT o x) (fun ci => e_exec g k o r pe lv (.ref h.2.1 :: st) (e_al h (e_O ci (e_dv ci)) (e_nf ci)) J Ψ) := by (simp only [e_exec, e_step] <;> rfl)
theorem x_checkcast {x : Nat} : e_exec g k o ((pc, .checkcast x, n, tg) :: r) pe lv st h J Ψ = e_om (e_CT o x) (fun ci => e_ck h ci st (e_exec g k o r pe lv st h J Ψ)) := by (simp only [e_exec, e_step] <;> rfl)
theorem x_ckr {h : e_Hp} {ci a : Nat} {st : List Value} {kk : Prop} : e_ck h ci (.ref a :: st) kk = e_gO h a ci (fun _ => kk) := id rfl
theorem x_ckn {h : e_Hp} {ci : Nat} {st : List Value} {kk : Prop} : e_ck h ci (.null :: st) kk = kk := id rfl
theorem x_ldc {x : Nat} : e_exec g k o ((pc, .ldc x, n, tg) :: r) pe lv st h J Ψ = e_om (e_IT o x) (fun v => e_exec g k o r pe lv (.int v :: st) h J Ψ) := by (simp only [e_exec, e_step] <;> rfl)
theorem x_ldc_w {x : Nat} : e_exec g k o ((pc, .ldc_w x, n, tg) :: r) pe lv st h J Ψ = e_om (e_IT o x) (fun v => e_exec g k o r pe lv (.int v :: st) h J Ψ) := by (simp only [e_exec, e_step] <;> rfl)
theorem x_ldc2_w {x : Nat} : e_exec g k o ((pc, .ldc2_w x, n, tg) :: r) pe lv st h J Ψ = e_om (e_LT o x) (fun v => e_exec g k o r pe lv (.long v :: st) h J Ψ) := by (simp only [e_exec, e_step] <;> rfl)
theorem x_getstatic {x : Nat} {a : Option Value} {i : Int32} {t : e_Lv} : e_exec g k o ((pc, .getstatic x, n, tg) :: r) pe (a :: some (.int i) :: t) st h J Ψ = (vp_in i (e_stI o x).1 ∧ e_exec g k o r pe (a :: some (.int i) :: t) (.int ((e_stI o x).2 i.toNatClampNeg) :: st) h J Ψ) := by (simp only [e_exec, e_step] <;> rfl)
theorem x_invokevirtual {x : Nat} : e_exec g k o ((pc, .invokevirtual x, n, tg) :: r) pe lv st h J Ψ = e_cal g (e_MT o x) lv st h (fun lv st h => e_exec g k o r pe lv st h J Ψ) := by (simp only [e_exec, e_step] <;> rfl)
theorem x_invokestatic {x : Nat} : e_exec g k o ((pc, .invokestatic x, n, tg) :: r) pe lv st h J Ψ = e_cal g (e_MT o x) lv st h (fun lv st h => e_exec g k o r pe lv st h J Ψ) := by (simp only [e_exec, e_step] <;> rfl)
theorem x_invokespecial {x : Nat} : e_exec g k o ((pc, .invokespecial x, n, tg) :: r) pe lv st h J Ψ = e_cal g (e_MT o x) lv st h (fun lv st h => e_exec g k o r pe lv st h J Ψ) := by (simp only [e_exec, e_step] <;> rfl)
theorem x_ireturn {x : Int32} : e_exec g k o ((pc, .ireturn, n, tg) :: r) pe lv [.int x] h J Ψ = ((e_rt k = some .int ∨ (e_rt k = some .boolean ∧ (x = 0 ∨ x = 1))) ∧ Ψ (some (.int x)) h) := by (simp only [e_exec, e_step] <;> rfl)
theorem x_lreturn {x : Int64} : e_exec g k o ((pc, .lreturn, n, tg) :: r) pe lv [.long x] h J Ψ = Ψ (some (.long x)) h := by (simp only [e_exec, e_step] <;> rfl)
theorem x_areturn_r {x : Nat} : e_exec g k o ((pc, .areturn, n, tg) :: r) pe lv [.ref x] h J Ψ = Ψ (some (.ref x)) h := by (simp only [e_exec, e_step] <;> rfl)
theorem x_areturn_n : e_exec g k o ((pc, .areturn, n, tg) :: r) pe lv [.null] h J Ψ = Ψ (some .null) h := by (simp only [e_exec, e_step] <;> rfl)
theorem x_areturn_q {x : Option Nat} : e_exec g k o ((pc, .areturn, n, tg) :: r) pe lv [va_rf x] h J Ψ = Ψ (some (va_rf x)) h := by (cases x <;> (simp only [e_exec, e_step, va_rf]))
theorem x_return : e_exec g k o ((pc, .return_, n, tg) :: r) pe lv [] h J Ψ = Ψ none h := by (simp only [e_exec, e_step] <;> rfl)
theorem x_nil : e_exec g k o [] pe lv st h J Ψ = J pe lv st h := id rfl
variable {K : e_K} {k2 ci : Nat}
theorem x_cv0 {a : Nat}  : e_cal g (some (0, k2, 0, ci)) lv (.ref a :: st) h K = (e_isC h a ci ∧ e_l4 st ∧ e_Sc g k2 (.ref a :: []) h (fun rv h' => K lv (e_ps rv st) h')) := id rfl
theorem x_ci0_2 {a : Nat}  : e_cal g (some (2, k2, 0, ci)) lv (.ref a :: st) h K = (e_l4 st ∧ e_Sc g k2 (.ref a :: []) h (fun rv h' => K lv (e_ps rv st) h')) := id rfl
theorem x_ci0_4 {a : Nat}  : e_cal g (some (4, k2, 0, ci)) lv (.ref a :: st) h K = (e_l4 st ∧ e_Sc g k2 (.ref a :: []) h (fun rv h' => K lv (e_ps rv st) h')) := id rfl
theorem x_cs0_1  : e_cal g (some (1, k2, 0, ci)) lv (st) h K = (e_l4 st ∧ e_Sc g k2 [] h (fun rv h' => K lv (e_ps rv st) h')) := propext ⟨fun q => q.2, fun q => ⟨by simp, q⟩⟩
theorem x_cs0_3  : e_cal g (some (3, k2, 0, ci)) lv (st) h K = (e_l4 st ∧ e_Sc g k2 [] h (fun rv h' => K lv (e_ps rv st) h')) := propext ⟨fun q => q.2, fun q => ⟨by simp, q⟩⟩
theorem x_cv1 {a : Nat} {b0 : Value} : e_cal g (some (0, k2, 1, ci)) lv (b0 :: .ref a :: st) h K = (e_isC h a ci ∧ e_l4 st ∧ e_Sc g k2 (.ref a :: [b0]) h (fun rv h' => K lv (e_ps rv st) h')) := id rfl
theorem x_ci1_2 {a : Nat} {b0 : Value} : e_cal g (some (2, k2, 1, ci)) lv (b0 :: .ref a :: st) h K = (e_l4 st ∧ e_Sc g k2 (.ref a :: [b0]) h (fun rv h' => K lv (e_ps rv st) h')) := id rfl
theorem x_ci1_4 {a : Nat} {b0 : Value} : e_cal g (some (4, k2, 1, ci)) lv (b0 :: .ref a :: st) h K = (e_l4 st ∧ e_Sc g k2 (.ref a :: [b0]) h (fun rv h' => K lv (e_ps rv st) h')) := id rfl
theorem x_cs1_1 {b0 : Value} : e_cal g (some (1, k2, 1, ci)) lv (b0 :: st) h K = (e_l4 st ∧ e_Sc g k2 [b0] h (fun rv h' => K lv (e_ps rv st) h')) := propext ⟨fun q => q.2, fun q => ⟨by simp, q⟩⟩
theorem x_cs1_3 {b0 : Value} : e_cal g (some (3, k2, 1, ci)) lv (b0 :: st) h K = (e_l4 st ∧ e_Sc g k2 [b0] h (fun rv h' => K lv (e_ps rv st) h')) := propext ⟨fun q => q.2, fun q => ⟨by simp, q⟩⟩
theorem x_cv2 {a : Nat} {b0 b1 : Value} : e_cal g (some (0, k2, 2, ci)) lv (b1 :: b0 :: .ref a :: st) h K = (e_isC h a ci ∧ e_l4 st ∧ e_Sc g k2 (.ref a :: [b0, b1]) h (fun rv h' => K lv (e_ps rv st) h')) := id rfl
theorem x_ci2_2 {a : Nat} {b0 b1 : Value} : e_cal g (some (2, k2, 2, ci)) lv (b1 :: b0 :: .ref a :: st) h K = (e_l4 st ∧ e_Sc g k2 (.ref a :: [b0, b1]) h (fun rv h' => K lv (e_ps rv st) h')) := id rfl
theorem x_ci2_4 {a : Nat} {b0 b1 : Value} : e_cal g (some (4, k2, 2, ci)) lv (b1 :: b0 :: .ref a :: st) h K = (e_l4 st ∧ e_Sc g k2 (.ref a :: [b0, b1]) h (fun rv h' => K lv (e_ps rv st) h')) := id rfl
theorem x_cs2_1 {b0 b1 : Value} : e_cal g (some (1, k2, 2, ci)) lv (b1 :: b0 :: st) h K = (e_l4 st ∧ e_Sc g k2 [b0, b1] h (fun rv h' => K lv (e_ps rv st) h')) := propext ⟨fun q => q.2, fun q => ⟨by simp, q⟩⟩
theorem x_cs2_3 {b0 b1 : Value} : e_cal g (some (3, k2, 2, ci)) lv (b1 :: b0 :: st) h K = (e_l4 st ∧ e_Sc g k2 [b0, b1] h (fun rv h' => K lv (e_ps rv st) h')) := propext ⟨fun q => q.2, fun q => ⟨by simp, q⟩⟩
theorem x_cv3 {a : Nat} {b0 b1 b2 : Value} : e_cal g (some (0, k2, 3, ci)) lv (b2 :: b1 :: b0 :: .ref a :: st) h K = (e_isC h a ci ∧ e_l4 st ∧ e_Sc g k2 (.ref a :: [b0, b1, b2]) h (fun rv h' => K lv (e_ps rv st) h')) := id rfl
theorem x_ci3_2 {a : Nat} {b0 b1 b2 : Value} : e_cal g (some (2, k2, 3, ci)) lv (b2 :: b1 :: b0 :: .ref a :: st) h K = (e_l4 st ∧ e_Sc g k2 (.ref a :: [b0, b1, b2]) h (fun rv h' => K lv (e_ps rv st) h')) := id rfl
theorem x_ci3_4 {a : Nat} {b0 b1 b2 : Value} : e_cal g (some (4, k2, 3, ci)) lv (b2 :: b1 :: b0 :: .ref a :: st) h K = (e_l4 st ∧ e_Sc g k2 (.ref a :: [b0, b1, b2]) h (fun rv h' => K lv (e_ps rv st) h')) := id rfl
theorem x_cs3_1 {b0 b1 b2 : Value} : e_cal g (some (1, k2, 3, ci)) lv (b2 :: b1 :: b0 :: st) h K = (e_l4 st ∧ e_Sc g k2 [b0, b1, b2] h (fun rv h' => K lv (e_ps rv st) h')) := propext ⟨fun q => q.2, fun q => ⟨by simp, q⟩⟩
theorem x_cs3_3 {b0 b1 b2 : Value} : e_cal g (some (3, k2, 3, ci)) lv (b2 :: b1 :: b0 :: st) h K = (e_l4 st ∧ e_Sc g k2 [b0, b1, b2] h (fun rv h' => K lv (e_ps rv st) h')) := propext ⟨fun q => q.2, fun q => ⟨by simp, q⟩⟩
theorem x_cv4 {a : Nat} {b0 b1 b2 b3 : Value} : e_cal g (some (0, k2, 4, ci)) lv (b3 :: b2 :: b1 :: b0 :: .ref a :: st) h K = (e_isC h a ci ∧ e_l4 st ∧ e_Sc g k2 (.ref a :: [b0, b1, b2, b3]) h (fun rv h' => K lv (e_ps rv st) h')) := id rfl
theorem x_ci4_2 {a : Nat} {b0 b1 b2 b3 : Value} : e_cal g (some (2, k2, 4, ci)) lv (b3 :: b2 :: b1 :: b0 :: .ref a :: st) h K = (e_l4 st ∧ e_Sc g k2 (.ref a :: [b0, b1, b2, b3]) h (fun rv h' => K lv (e_ps rv st) h')) := id rfl
theorem x_ci4_4 {a : Nat} {b0 b1 b2 b3 : Value} : e_cal g (some (4, k2, 4, ci)) lv (b3 :: b2 :: b1 :: b0 :: .ref a :: st) h K = (e_l4 st ∧ e_Sc g k2 (.ref a :: [b0, b1, b2, b3]) h (fun rv h' => K lv (e_ps rv st) h')) := id rfl
theorem x_cs4_1 {b0 b1 b2 b3 : Value} : e_cal g (some (1, k2, 4, ci)) lv (b3 :: b2 :: b1 :: b0 :: st) h K = (e_l4 st ∧ e_Sc g k2 [b0, b1, b2, b3] h (fun rv h' => K lv (e_ps rv st) h')) := propext ⟨fun q => q.2, fun q => ⟨by simp, q⟩⟩
theorem x_cs4_3 {b0 b1 b2 b3 : Value} : e_cal g (some (3, k2, 4, ci)) lv (b3 :: b2 :: b1 :: b0 :: st) h K = (e_l4 st ∧ e_Sc g k2 [b0, b1, b2, b3] h (fun rv h' => K lv (e_ps rv st) h')) := propext ⟨fun q => q.2, fun q => ⟨by simp, q⟩⟩
theorem x_cv5 {a : Nat} {b0 b1 b2 b3 b4 : Value} : e_cal g (some (0, k2, 5, ci)) lv (b4 :: b3 :: b2 :: b1 :: b0 :: .ref a :: st) h K = (e_isC h a ci ∧ e_l4 st ∧ e_Sc g k2 (.ref a :: [b0, b1, b2, b3, b4]) h (fun rv h' => K lv (e_ps rv st) h')) := id rfl
theorem x_ci5_2 {a : Nat} {b0 b1 b2 b3 b4 : Value} : e_cal g (some (2, k2, 5, ci)) lv (b4 :: b3 :: b2 :: b1 :: b0 :: .ref a :: st) h K = (e_l4 st ∧ e_Sc g k2 (.ref a :: [b0, b1, b2, b3, b4]) h (fun rv h' => K lv (e_ps rv st) h')) := id rfl
theorem x_ci5_4 {a : Nat} {b0 b1 b2 b3 b4 : Value} : e_cal g (some (4, k2, 5, ci)) lv (b4 :: b3 :: b2 :: b1 :: b0 :: .ref a :: st) h K = (e_l4 st ∧ e_Sc g k2 (.ref a :: [b0, b1, b2, b3, b4]) h (fun rv h' => K lv (e_ps rv st) h')) := id rfl
theorem x_cs5_1 {b0 b1 b2 b3 b4 : Value} : e_cal g (some (1, k2, 5, ci)) lv (b4 :: b3 :: b2 :: b1 :: b0 :: st) h K = (e_l4 st ∧ e_Sc g k2 [b0, b1, b2, b3, b4] h (fun rv h' => K lv (e_ps rv st) h')) := propext ⟨fun q => q.2, fun q => ⟨by simp, q⟩⟩
theorem x_cs5_3 {b0 b1 b2 b3 b4 : Value} : e_cal g (some (3, k2, 5, ci)) lv (b4 :: b3 :: b2 :: b1 :: b0 :: st) h K = (e_l4 st ∧ e_Sc g k2 [b0, b1, b2, b3, b4] h (fun rv h' => K lv (e_ps rv st) h')) := propext ⟨fun q => q.2, fun q => ⟨by simp, q⟩⟩
theorem x_cv6 {a : Nat} {b0 b1 b2 b3 b4 b5 : Value} : e_cal g (some (0, k2, 6, ci)) lv (b5 :: b4 :: b3 :: b2 :: b1 :: b0 :: .ref a :: st) h K = (e_isC h a ci ∧ e_l4 st ∧ e_Sc g k2 (.ref a :: [b0, b1, b2, b3, b4, b5]) h (fun rv h' => K lv (e_ps rv st) h')) := id rfl
theorem x_ci6_2 {a : Nat} {b0 b1 b2 b3 b4 b5 : Value} : e_cal g (some (2, k2, 6, ci)) lv (b5 :: b4 :: b3 :: b2 :: b1 :: b0 :: .ref a :: st) h K = (e_l4 st ∧ e_Sc g k2 (.ref a :: [b0, b1, b2, b3, b4, b5]) h (fun rv h' => K lv (e_ps rv st) h')) := id rfl
theorem x_ci6_4 {a : Nat} {b0 b1 b2 b3 b4 b5 : Value} : e_cal g (some (4, k2, 6, ci)) lv (b5 :: b4 :: b3 :: b2 :: b1 :: b0 :: .ref a :: st) h K = (e_l4 st ∧ e_Sc g k2 (.ref a :: [b0, b1, b2, b3, b4, b5]) h (fun rv h' => K lv (e_ps rv st) h')) := id rfl
theorem x_cs6_1 {b0 b1 b2 b3 b4 b5 : Value} : e_cal g (some (1, k2, 6, ci)) lv (b5 :: b4 :: b3 :: b2 :: b1 :: b0 :: st) h K = (e_l4 st ∧ e_Sc g k2 [b0, b1, b2, b3, b4, b5] h (fun rv h' => K lv (e_ps rv st) h')) := propext ⟨fun q => q.2, fun q => ⟨by simp, q⟩⟩
theorem x_cs6_3 {b0 b1 b2 b3 b4 b5 : Value} : e_cal g (some (3, k2, 6, ci)) lv (b5 :: b4 :: b3 :: b2 :: b1 :: b0 :: st) h K = (e_l4 st ∧ e_Sc g k2 [b0, b1, b2, b3, b4, b5] h (fun rv h' => K lv (e_ps rv st) h')) := propext ⟨fun q => q.2, fun q => ⟨by simp, q⟩⟩
theorem x_cv7 {a : Nat} {b0 b1 b2 b3 b4 b5 b6 : Value} : e_cal g (some (0, k2, 7, ci)) lv (b6 :: b5 :: b4 :: b3 :: b2 :: b1 :: b0 :: .ref a :: st) h K = (e_isC h a ci ∧ e_l4 st ∧ e_Sc g k2 (.ref a :: [b0, b1, b2, b3, b4, b5, b6]) h (fun rv h' => K lv (e_ps rv st) h')) := id rfl
theorem x_ci7_2 {a : Nat} {b0 b1 b2 b3 b4 b5 b6 : Value} : e_cal g (some (2, k2, 7, ci)) lv (b6 :: b5 :: b4 :: b3 :: b2 :: b1 :: b0 :: .ref a :: st) h K = (e_l4 st ∧ e_Sc g k2 (.ref a :: [b0, b1, b2, b3, b4, b5, b6]) h (fun rv h' => K lv (e_ps rv st) h')) := id rfl
theorem x_ci7_4 {a : Nat} {b0 b1 b2 b3 b4 b5 b6 : Value} : e_cal g (some (4, k2, 7, ci)) lv (b6 :: b5 :: b4 :: b3 :: b2 :: b1 :: b0 :: .ref a :: st) h K = (e_l4 st ∧ e_Sc g k2 (.ref a :: [b0, b1, b2, b3, b4, b5, b6]) h (fun rv h' => K lv (e_ps rv st) h')) := id rfl
theorem x_cs7_1 {b0 b1 b2 b3 b4 b5 b6 : Value} : e_cal g (some (1, k2, 7, ci)) lv (b6 :: b5 :: b4 :: b3 :: b2 :: b1 :: b0 :: st) h K = (e_l4 st ∧ e_Sc g k2 [b0, b1, b2, b3, b4, b5, b6] h (fun rv h' => K lv (e_ps rv st) h')) := propext ⟨fun q => q.2, fun q => ⟨by simp, q⟩⟩
theorem x_cs7_3 {b0 b1 b2 b3 b4 b5 b6 : Value} : e_cal g (some (3, k2, 7, ci)) lv (b6 :: b5 :: b4 :: b3 :: b2 :: b1 :: b0 :: st) h K = (e_l4 st ∧ e_Sc g k2 [b0, b1, b2, b3, b4, b5, b6] h (fun rv h' => K lv (e_ps rv st) h')) := propext ⟨fun q => q.2, fun q => ⟨by simp, q⟩⟩
theorem x_cv8 {a : Nat} {b0 b1 b2 b3 b4 b5 b6 b7 : Value} : e_cal g (some (0, k2, 8, ci)) lv (b7 :: b6 :: b5 :: b4 :: b3 :: b2 :: b1 :: b0 :: .ref a :: st) h K = (e_isC h a ci ∧ e_l4 st ∧ e_Sc g k2 (.ref a :: [b0, b1, b2, b3, b4, b5, b6, b7]) h (fun rv h' => K lv (e_ps rv st) h')) := id rfl
theorem x_ci8_2 {a : Nat} {b0 b1 b2 b3 b4 b5 b6 b7 : Value} : e_cal g (some (2, k2, 8, ci)) lv (b7 :: b6 :: b5 :: b4 :: b3 :: b2 :: b1 :: b0 :: .ref a :: st) h K = (e_l4 st ∧ e_Sc g k2 (.ref a :: [b0, b1, b2, b3, b4, b5, b6, b7]) h (fun rv h' => K lv (e_ps rv st) h')) := id rfl
theorem x_ci8_4 {a : Nat} {b0 b1 b2 b3 b4 b5 b6 b7 : Value} : e_cal g (some (4, k2, 8, ci)) lv (b7 :: b6 :: b5 :: b4 :: b3 :: b2 :: b1 :: b0 :: .ref a :: st) h K = (e_l4 st ∧ e_Sc g k2 (.ref a :: [b0, b1, b2, b3, b4, b5, b6, b7]) h (fun rv h' => K lv (e_ps rv st) h')) := id rfl
theorem x_cs8_1 {b0 b1 b2 b3 b4 b5 b6 b7 : Value} : e_cal g (some (1, k2, 8, ci)) lv (b7 :: b6 :: b5 :: b4 :: b3 :: b2 :: b1 :: b0 :: st) h K = (e_l4 st ∧ e_Sc g k2 [b0, b1, b2, b3, b4, b5, b6, b7] h (fun rv h' => K lv (e_ps rv st) h')) := propext ⟨fun q => q.2, fun q => ⟨by simp, q⟩⟩
theorem x_cs8_3 {b0 b1 b2 b3 b4 b5 b6 b7 : Value} : e_cal g (some (3, k2, 8, ci)) lv (b7 :: b6 :: b5 :: b4 :: b3 :: b2 :: b1 :: b0 :: st) h K = (e_l4 st ∧ e_Sc g k2 [b0, b1, b2, b3, b4, b5, b6, b7] h (fun rv h' => K lv (e_ps rv st) h')) := propext ⟨fun q => q.2, fun q => ⟨by simp, q⟩⟩
theorem x_co {a : Nat} {n : Nat} : e_cal g (some (5, k2, n, ci)) lv (.ref a :: st) h K = (e_l4 st ∧ K lv st h) := id rfl
theorem x_cmax {n : Nat} {x y : Int32} : e_cal g (some (6, k2, n, ci)) lv (.int y :: .int x :: st) h K = (e_l4 st ∧ K lv (.int (if x < y then y else x) :: st) h) := id rfl
theorem x_cmin {n : Nat} {x y : Int32} : e_cal g (some (7, k2, n, ci)) lv (.int y :: .int x :: st) h K = (e_l4 st ∧ K lv (.int (if y < x then y else x) :: st) h) := id rfl
theorem x_ccpy {m : Nat} {n dp sp : Int32} {d s : Nat} : e_cal g (some (8, k2, m, ci)) lv (.int n :: .int dp :: .ref d :: .int sp :: .ref s :: st) h K = (e_l4 st ∧ e_gI h s 0 (fun ns f => e_gI h d 0 (fun nd f2 => ¬ n < 0 ∧ ¬ sp < 0 ∧ ¬ dp < 0 ∧ sp.toNatClampNeg + n.toNatClampNeg ≤ ns ∧ dp.toNatClampNeg + n.toNatClampNeg ≤ nd ∧ K lv st (e_wr h d (e_I 0 nd (e_cpy f f2 sp.toNatClampNeg dp.toNatClampNeg n.toNatClampNeg)))))) := id rfl
theorem x_ps0 {r : List Value} : e_ps none r = r := id rfl
theorem x_ps1 {v : Value} {r : List Value} : e_ps (some v) r = v :: r := id rfl
theorem x_l40 : e_l4 [] = True := by simp [e_l4]
theorem x_cat (v : Value) : v.category ≤ 2 := by cases v <;> simp [Value.category]
theorem x_l41 {v0 : Value} : e_l4 [v0] = True := eq_true (by simp only [e_l4, List.map_cons, List.map_nil, List.sum_cons, List.sum_nil]; have z0 := x_cat v0; omega)
theorem x_l42 {v0 v1 : Value} : e_l4 [v0, v1] = True := eq_true (by simp only [e_l4, List.map_cons, List.map_nil, List.sum_cons, List.sum_nil]; have z0 := x_cat v0; have z1 := x_cat v1; omega)
theorem x_l43 {v0 v1 v2 : Value} : e_l4 [v0, v1, v2] = True := eq_true (by simp only [e_l4, List.map_cons, List.map_nil, List.sum_cons, List.sum_nil]; have z0 := x_cat v0; have z1 := x_cat v1; have z2 := x_cat v2; omega)
theorem x_l44 {v0 v1 v2 v3 : Value} : e_l4 [v0, v1, v2, v3] = True := eq_true (by simp only [e_l4, List.map_cons, List.map_nil, List.sum_cons, List.sum_nil]; have z0 := x_cat v0; have z1 := x_cat v1; have z2 := x_cat v2; have z3 := x_cat v3; omega)
theorem x_in0 {n : Nat} : e_in [] n = List.replicate n none := id rfl
theorem x_ini {x : Int32} {vs : List Value} {n : Nat} : e_in (.int x :: vs) n = some (.int x) :: e_in vs (n - 1) := id rfl
theorem x_inr {x : Nat} {vs : List Value} {n : Nat} : e_in (.ref x :: vs) n = some (.ref x) :: e_in vs (n - 1) := id rfl
theorem x_inn {vs : List Value} {n : Nat} : e_in (.null :: vs) n = some .null :: e_in vs (n - 1) := id rfl
theorem x_inq {x : Option Nat} {vs : List Value} {n : Nat} : e_in (va_rf x :: vs) n = some (va_rf x) :: e_in vs (n - 1) := by cases x <;> rfl
theorem x_inl {x : Int64} {vs : List Value} {n : Nat} : e_in (.long x :: vs) n = some (.long x) :: none :: e_in vs (n - 2) := id rfl
theorem x_rp0 {α : Type} {a : α} : List.replicate 0 a = [] := id rfl
theorem x_rps {α : Type} {a : α} {n : Nat} : List.replicate (n + 1) a = a :: List.replicate n a := id rfl
end XR
theorem ft_1_9 : e_FT 1 9 = some (1, 0, 0) := by decide +kernel
theorem ft_1_15 : e_FT 1 15 = some (1, 1, 0) := by decide +kernel
theorem ft_1_18 : e_FT 1 18 = some (1, 2, 0) := by decide +kernel
theorem ft_1_21 : e_FT 1 21 = some (1, 3, 0) := by decide +kernel
theorem ft_1_24 : e_FT 1 24 = some (1, 4, 0) := by decide +kernel
theorem ft_1_27 : e_FT 1 27 = some (1, 5, 0) := by decide +kernel
theorem ft_2_9 : e_FT 2 9 = some (2, 3, 0) := by decide +kernel
theorem ft_2_15 : e_FT 2 15 = some (2, 10, 0) := by decide +kernel
theorem ft_2_21 : e_FT 2 21 = some (2, 14, 2) := by decide +kernel
theorem ft_2_25 : e_FT 2 25 = some (2, 15, 2) := by decide +kernel
theorem ft_2_29 : e_FT 2 29 = some (2, 0, 0) := by decide +kernel
theorem ft_2_32 : e_FT 2 32 = some (2, 1, 0) := by decide +kernel
theorem ft_2_35 : e_FT 2 35 = some (2, 2, 0) := by decide +kernel
theorem ft_2_38 : e_FT 2 38 = some (2, 5, 0) := by decide +kernel
theorem ft_2_41 : e_FT 2 41 = some (2, 6, 0) := by decide +kernel
theorem ft_2_44 : e_FT 2 44 = some (2, 9, 0) := by decide +kernel
theorem ft_3_9 : e_FT 3 9 = some (3, 0, 2) := by decide +kernel
theorem ft_3_15 : e_FT 3 15 = some (3, 1, 0) := by decide +kernel
theorem ft_3_19 : e_FT 3 19 = some (3, 2, 0) := by decide +kernel
theorem ft_3_22 : e_FT 3 22 = some (3, 3, 0) := by decide +kernel
theorem ft_3_25 : e_FT 3 25 = some (3, 4, 0) := by decide +kernel
theorem ft_3_28 : e_FT 3 28 = some (2, 7, 0) := by decide +kernel
theorem ft_3_33 : e_FT 3 33 = some (3, 5, 0) := by decide +kernel
theorem ft_3_34 : e_FT 3 34 = some (2, 5, 0) := by decide +kernel
theorem ft_3_37 : e_FT 3 37 = some (3, 6, 0) := by decide +kernel
theorem ft_3_50 : e_FT 3 50 = some (2, 0, 0) := by decide +kernel
theorem ft_4_10 : e_FT 4 10 = some (4, 0, 2) := by decide +kernel
theorem ft_4_16 : e_FT 4 16 = some (4, 3, 0) := by decide +kernel
theorem ft_4_41 : e_FT 4 41 = some (4, 1, 0) := by decide +kernel
theorem ft_4_44 : e_FT 4 44 = some (4, 2, 0) := by decide +kernel
theorem ft_5_9 : e_FT 5 9 = some (5, 4, 2) := by decide +kernel
theorem ft_5_15 : e_FT 5 15 = some (5, 0, 0) := by decide +kernel
theorem ft_5_19 : e_FT 5 19 = some (5, 1, 0) := by decide +kernel
theorem ft_5_22 : e_FT 5 22 = some (5, 2, 0) := by decide +kernel
theorem ft_5_25 : e_FT 5 25 = some (5, 3, 0) := by decide +kernel
theorem ft_6_9 : e_FT 6 9 = some (6, 0, 2) := by decide +kernel
theorem ft_6_15 : e_FT 6 15 = some (6, 1, 2) := by decide +kernel
theorem ft_6_18 : e_FT 6 18 = some (6, 2, 2) := by decide +kernel
theorem ft_6_21 : e_FT 6 21 = some (6, 3, 2) := by decide +kernel
theorem ft_6_24 : e_FT 6 24 = some (6, 4, 2) := by decide +kernel
theorem ft_6_27 : e_FT 6 27 = some (6, 6, 0) := by decide +kernel
theorem ft_6_31 : e_FT 6 31 = some (6, 5, 0) := by decide +kernel
theorem ft_7_9 : e_FT 7 9 = some (7, 7, 0) := by decide +kernel
theorem ft_7_15 : e_FT 7 15 = some (7, 0, 0) := by decide +kernel
theorem ft_7_18 : e_FT 7 18 = some (7, 1, 0) := by decide +kernel
theorem ft_7_21 : e_FT 7 21 = some (7, 2, 0) := by decide +kernel
theorem ft_7_24 : e_FT 7 24 = some (7, 3, 0) := by decide +kernel
theorem ft_7_27 : e_FT 7 27 = some (7, 4, 0) := by decide +kernel
theorem ft_7_30 : e_FT 7 30 = some (7, 5, 0) := by decide +kernel
theorem ft_7_33 : e_FT 7 33 = some (7, 6, 0) := by decide +kernel
theorem ft_7_39 : e_FT 7 39 = some (2, 0, 0) := by decide +kernel
theorem ft_7_44 : e_FT 7 44 = some (7, 9, 1) := by decide +kernel
theorem ft_8_11 : e_FT 8 11 = some (8, 0, 2) := by decide +kernel
theorem ft_8_20 : e_FT 8 20 = some (8, 2, 2) := by decide +kernel
theorem ft_8_24 : e_FT 8 24 = some (8, 1, 0) := by decide +kernel
theorem ft_8_33 : e_FT 8 33 = some (11, 2, 0) := by decide +kernel
theorem ft_8_40 : e_FT 8 40 = some (11, 1, 0) := by decide +kernel
theorem ft_8_43 : e_FT 8 43 = some (11, 0, 0) := by decide +kernel
theorem ft_8_46 : e_FT 8 46 = some (11, 3, 0) := by decide +kernel
theorem ft_8_56 : e_FT 8 56 = some (5, 1, 0) := by decide +kernel
theorem ft_8_91 : e_FT 8 91 = some (5, 0, 0) := by decide +kernel
theorem ft_8_107 : e_FT 8 107 = some (7, 2, 0) := by decide +kernel
theorem ft_8_112 : e_FT 8 112 = some (7, 5, 0) := by decide +kernel
theorem ft_8_115 : e_FT 8 115 = some (7, 3, 0) := by decide +kernel
theorem ft_8_118 : e_FT 8 118 = some (7, 4, 0) := by decide +kernel
theorem ft_8_121 : e_FT 8 121 = some (7, 6, 0) := by decide +kernel
theorem ft_8_122 : e_FT 8 122 = some (7, 8, 0) := by decide +kernel
theorem ft_9_12 : e_FT 9 12 = some (9, 1, 2) := by decide +kernel
theorem ft_9_18 : e_FT 9 18 = some (9, 2, 2) := by decide +kernel
theorem ft_9_21 : e_FT 9 21 = some (9, 4, 2) := by decide +kernel
theorem ft_9_25 : e_FT 9 25 = some (9, 5, 2) := by decide +kernel
theorem ft_9_28 : e_FT 9 28 = some (9, 0, 0) := by decide +kernel
theorem ft_9_35 : e_FT 9 35 = some (9, 3, 0) := by decide +kernel
theorem ft_9_56 : e_FT 9 56 = some (3, 7, 1) := by decide +kernel
theorem ft_9_60 : e_FT 9 60 = some (3, 0, 2) := by decide +kernel
theorem ft_9_79 : e_FT 9 79 = some (2, 12, 0) := by decide +kernel
theorem ft_9_91 : e_FT 9 91 = some (3, 6, 0) := by decide +kernel
theorem ft_9_94 : e_FT 9 94 = some (3, 5, 0) := by decide +kernel
theorem ft_9_97 : e_FT 9 97 = some (2, 5, 0) := by decide +kernel
theorem ft_11_9 : e_FT 11 9 = some (11, 4, 2) := by decide +kernel
theorem ft_11_15 : e_FT 11 15 = some (11, 0, 0) := by decide +kernel
theorem ft_11_19 : e_FT 11 19 = some (11, 1, 0) := by decide +kernel
theorem ft_11_22 : e_FT 11 22 = some (11, 2, 0) := by decide +kernel
theorem ft_11_29 : e_FT 11 29 = some (11, 3, 0) := by decide +kernel
theorem ft_11_55 : e_FT 11 55 = some (5, 0, 0) := by decide +kernel
theorem ft_11_91 : e_FT 11 91 = some (5, 1, 0) := by decide +kernel
theorem ft_11_96 : e_FT 11 96 = some (5, 2, 0) := by decide +kernel
theorem ft_12_12 : e_FT 12 12 = some (12, 0, 2) := by decide +kernel
theorem ft_12_16 : e_FT 12 16 = some (12, 1, 2) := by decide +kernel
theorem ft_12_19 : e_FT 12 19 = some (12, 2, 2) := by decide +kernel
theorem ft_12_24 : e_FT 12 24 = some (12, 3, 2) := by decide +kernel
theorem ft_12_31 : e_FT 12 31 = some (12, 4, 2) := by decide +kernel
theorem ft_12_35 : e_FT 12 35 = some (12, 5, 2) := by decide +kernel
theorem ft_12_38 : e_FT 12 38 = some (12, 6, 2) := by decide +kernel
theorem ft_12_44 : e_FT 12 44 = some (12, 7, 2) := by decide +kernel
theorem ft_12_51 : e_FT 12 51 = some (12, 8, 2) := by decide +kernel
theorem ft_12_58 : e_FT 12 58 = some (12, 9, 2) := by decide +kernel
theorem ft_12_62 : e_FT 12 62 = some (12, 10, 0) := by decide +kernel
theorem ft_12_66 : e_FT 12 66 = some (12, 11, 0) := by decide +kernel
theorem ft_12_73 : e_FT 12 73 = some (11, 0, 0) := by decide +kernel
theorem ft_12_83 : e_FT 12 83 = some (11, 2, 0) := by decide +kernel
theorem ft_12_86 : e_FT 12 86 = some (8, 1, 0) := by decide +kernel
theorem ft_12_110 : e_FT 12 110 = some (11, 1, 0) := by decide +kernel
theorem ft_12_125 : e_FT 12 125 = some (2, 3, 0) := by decide +kernel
theorem ft_12_130 : e_FT 12 130 = some (2, 5, 0) := by decide +kernel
theorem ft_12_158 : e_FT 12 158 = some (2, 6, 0) := by decide +kernel
theorem ft_12_167 : e_FT 12 167 = some (2, 10, 0) := by decide +kernel
theorem ft_12_170 : e_FT 12 170 = some (2, 0, 0) := by decide +kernel
theorem ft_12_194 : e_FT 12 194 = some (2, 4, 0) := by decide +kernel
theorem ft_12_197 : e_FT 12 197 = some (2, 1, 0) := by decide +kernel
theorem ft_12_200 : e_FT 12 200 = some (2, 2, 0) := by decide +kernel
theorem ft_12_207 : e_FT 12 207 = some (10, 2, 0) := by decide +kernel
theorem ft_12_210 : e_FT 12 210 = some (2, 7, 0) := by decide +kernel
theorem ft_12_214 : e_FT 12 214 = some (2, 14, 2) := by decide +kernel
theorem ft_12_224 : e_FT 12 224 = some (2, 8, 0) := by decide +kernel
theorem ft_12_227 : e_FT 12 227 = some (2, 9, 0) := by decide +kernel
theorem ft_12_230 : e_FT 12 230 = some (2, 13, 2) := by decide +kernel
theorem ft_12_234 : e_FT 12 234 = some (3, 1, 0) := by decide +kernel
theorem ft_12_243 : e_FT 12 243 = some (9, 1, 2) := by decide +kernel
theorem ft_12_254 : e_FT 12 254 = some (9, 2, 2) := by decide +kernel
theorem ft_12_260 : e_FT 12 260 = some (4, 3, 0) := by decide +kernel
theorem ft_12_263 : e_FT 12 263 = some (10, 6, 0) := by decide +kernel
theorem ft_12_275 : e_FT 12 275 = some (4, 1, 0) := by decide +kernel
theorem ft_12_301 : e_FT 12 301 = some (7, 0, 0) := by decide +kernel
theorem ft_12_304 : e_FT 12 304 = some (7, 3, 0) := by decide +kernel
theorem ft_12_307 : e_FT 12 307 = some (7, 5, 0) := by decide +kernel
theorem ft_12_310 : e_FT 12 310 = some (7, 4, 0) := by decide +kernel
theorem ft_12_313 : e_FT 12 313 = some (7, 1, 0) := by decide +kernel
theorem ft_12_320 : e_FT 12 320 = some (8, 2, 2) := by decide +kernel
theorem ft_12_332 : e_FT 12 332 = some (10, 0, 0) := by decide +kernel
theorem ft_12_335 : e_FT 12 335 = some (10, 1, 0) := by decide +kernel
theorem ft_12_341 : e_FT 12 341 = some (10, 3, 0) := by decide +kernel
theorem ft_12_344 : e_FT 12 344 = some (10, 4, 0) := by decide +kernel
theorem ft_12_347 : e_FT 12 347 = some (10, 5, 0) := by decide +kernel
theorem ft_12_381 : e_FT 12 381 = some (2, 11, 0) := by decide +kernel
theorem ft_12_384 : e_FT 12 384 = some (2, 12, 0) := by decide +kernel
theorem ft_12_404 : e_FT 12 404 = some (7, 9, 1) := by decide +kernel
theorem ft_12_431 : e_FT 12 431 = some (1, 5, 0) := by decide +kernel
theorem ft_12_434 : e_FT 12 434 = some (1, 4, 0) := by decide +kernel
theorem ft_12_444 : e_FT 12 444 = some (1, 2, 0) := by decide +kernel
theorem ft_12_458 : e_FT 12 458 = some (1, 1, 0) := by decide +kernel
theorem ft_12_459 : e_FT 12 459 = some (1, 0, 0) := by decide +kernel
theorem ft_12_460 : e_FT 12 460 = some (1, 3, 0) := by decide +kernel
theorem ft_12_475 : e_FT 12 475 = some (5, 1, 0) := by decide +kernel
theorem ft_12_476 : e_FT 12 476 = some (5, 0, 0) := by decide +kernel
theorem ft_12_477 : e_FT 12 477 = some (5, 2, 0) := by decide +kernel
theorem ft_12_480 : e_FT 12 480 = some (7, 8, 0) := by decide +kernel
theorem ft_12_484 : e_FT 12 484 = some (3, 0, 2) := by decide +kernel
theorem ft_12_496 : e_FT 12 496 = some (6, 6, 0) := by decide +kernel
theorem ft_12_510 : e_FT 12 510 = some (6, 5, 0) := by decide +kernel
theorem ft_12_515 : e_FT 12 515 = some (7, 2, 0) := by decide +kernel
theorem ft_12_516 : e_FT 12 516 = some (7, 6, 0) := by decide +kernel
theorem ft_13_7 : e_FT 13 7 = some (13, 4, 2) := by decide +kernel
theorem ft_13_13 : e_FT 13 13 = some (13, 5, 2) := by decide +kernel
theorem ft_13_16 : e_FT 13 16 = some (13, 6, 2) := by decide +kernel
theorem ft_13_19 : e_FT 13 19 = some (13, 7, 2) := by decide +kernel
theorem ft_13_22 : e_FT 13 22 = some (13, 9, 2) := by decide +kernel
theorem ft_13_25 : e_FT 13 25 = some (13, 10, 2) := by decide +kernel
theorem ft_13_28 : e_FT 13 28 = some (13, 11, 2) := by decide +kernel
theorem ft_13_31 : e_FT 13 31 = some (13, 12, 2) := by decide +kernel
theorem ft_13_34 : e_FT 13 34 = some (13, 17, 2) := by decide +kernel
theorem ft_13_37 : e_FT 13 37 = some (13, 18, 2) := by decide +kernel
theorem ft_13_40 : e_FT 13 40 = some (13, 19, 2) := by decide +kernel
theorem ft_13_43 : e_FT 13 43 = some (13, 20, 2) := by decide +kernel
theorem ft_13_46 : e_FT 13 46 = some (13, 21, 2) := by decide +kernel
theorem ft_13_49 : e_FT 13 49 = some (13, 22, 2) := by decide +kernel
theorem ft_13_52 : e_FT 13 52 = some (13, 23, 2) := by decide +kernel
theorem ft_13_55 : e_FT 13 55 = some (13, 24, 2) := by decide +kernel
theorem ft_13_58 : e_FT 13 58 = some (13, 31, 2) := by decide +kernel
theorem ft_13_61 : e_FT 13 61 = some (13, 34, 2) := by decide +kernel
theorem ft_13_64 : e_FT 13 64 = some (13, 35, 2) := by decide +kernel
theorem ft_13_67 : e_FT 13 67 = some (13, 36, 2) := by decide +kernel
theorem ft_13_70 : e_FT 13 70 = some (13, 37, 2) := by decide +kernel
theorem ft_13_73 : e_FT 13 73 = some (13, 38, 2) := by decide +kernel
theorem ft_13_76 : e_FT 13 76 = some (13, 39, 2) := by decide +kernel
theorem ft_13_79 : e_FT 13 79 = some (13, 40, 2) := by decide +kernel
theorem ft_13_82 : e_FT 13 82 = some (13, 41, 2) := by decide +kernel
theorem ft_13_86 : e_FT 13 86 = some (13, 42, 2) := by decide +kernel
theorem ft_13_89 : e_FT 13 89 = some (13, 43, 2) := by decide +kernel
theorem ft_13_92 : e_FT 13 92 = some (13, 46, 2) := by decide +kernel
theorem ft_13_95 : e_FT 13 95 = some (13, 47, 2) := by decide +kernel
theorem ft_13_98 : e_FT 13 98 = some (13, 48, 2) := by decide +kernel
theorem ft_13_101 : e_FT 13 101 = some (13, 49, 2) := by decide +kernel
theorem ft_13_104 : e_FT 13 104 = some (13, 50, 2) := by decide +kernel
theorem ft_13_107 : e_FT 13 107 = some (13, 51, 2) := by decide +kernel
theorem ft_13_110 : e_FT 13 110 = some (13, 52, 2) := by decide +kernel
theorem ft_13_113 : e_FT 13 113 = some (13, 53, 2) := by decide +kernel
theorem ft_13_116 : e_FT 13 116 = some (13, 54, 2) := by decide +kernel
theorem ft_13_119 : e_FT 13 119 = some (13, 55, 2) := by decide +kernel
theorem ft_13_122 : e_FT 13 122 = some (13, 56, 2) := by decide +kernel
theorem ft_13_125 : e_FT 13 125 = some (13, 57, 2) := by decide +kernel
theorem ft_13_128 : e_FT 13 128 = some (13, 58, 2) := by decide +kernel
theorem ft_13_131 : e_FT 13 131 = some (13, 59, 2) := by decide +kernel
theorem ft_13_134 : e_FT 13 134 = some (13, 61, 2) := by decide +kernel
theorem ft_13_137 : e_FT 13 137 = some (13, 67, 2) := by decide +kernel
theorem ft_13_140 : e_FT 13 140 = some (13, 68, 2) := by decide +kernel
theorem ft_13_143 : e_FT 13 143 = some (13, 69, 2) := by decide +kernel
theorem ft_13_146 : e_FT 13 146 = some (13, 70, 2) := by decide +kernel
theorem ft_13_149 : e_FT 13 149 = some (13, 71, 2) := by decide +kernel
theorem ft_13_152 : e_FT 13 152 = some (13, 73, 2) := by decide +kernel
theorem ft_13_155 : e_FT 13 155 = some (13, 74, 2) := by decide +kernel
theorem ft_13_158 : e_FT 13 158 = some (13, 75, 2) := by decide +kernel
theorem ft_13_161 : e_FT 13 161 = some (13, 76, 2) := by decide +kernel
theorem ft_13_164 : e_FT 13 164 = some (13, 77, 2) := by decide +kernel
theorem ft_13_167 : e_FT 13 167 = some (13, 78, 2) := by decide +kernel
theorem ft_13_170 : e_FT 13 170 = some (13, 79, 2) := by decide +kernel
theorem ft_13_173 : e_FT 13 173 = some (13, 81, 2) := by decide +kernel
theorem ft_13_176 : e_FT 13 176 = some (13, 82, 2) := by decide +kernel
theorem ft_13_179 : e_FT 13 179 = some (13, 83, 2) := by decide +kernel
theorem ft_13_182 : e_FT 13 182 = some (13, 84, 2) := by decide +kernel
theorem ft_13_185 : e_FT 13 185 = some (13, 85, 2) := by decide +kernel
theorem ft_13_188 : e_FT 13 188 = some (13, 86, 2) := by decide +kernel
theorem ft_13_191 : e_FT 13 191 = some (13, 88, 2) := by decide +kernel
theorem ft_13_194 : e_FT 13 194 = some (13, 89, 2) := by decide +kernel
theorem ft_13_197 : e_FT 13 197 = some (13, 90, 2) := by decide +kernel
theorem ft_13_200 : e_FT 13 200 = some (13, 91, 2) := by decide +kernel
theorem ft_13_203 : e_FT 13 203 = some (13, 95, 2) := by decide +kernel
theorem ft_13_206 : e_FT 13 206 = some (13, 96, 2) := by decide +kernel
theorem ft_13_209 : e_FT 13 209 = some (13, 97, 2) := by decide +kernel
theorem ft_13_212 : e_FT 13 212 = some (13, 98, 2) := by decide +kernel
theorem ft_13_215 : e_FT 13 215 = some (13, 99, 2) := by decide +kernel
theorem ft_13_218 : e_FT 13 218 = some (13, 100, 2) := by decide +kernel
theorem ft_13_221 : e_FT 13 221 = some (13, 101, 2) := by decide +kernel
theorem ft_13_224 : e_FT 13 224 = some (13, 1, 0) := by decide +kernel
theorem ft_13_228 : e_FT 13 228 = some (13, 2, 0) := by decide +kernel
theorem ft_13_231 : e_FT 13 231 = some (13, 8, 0) := by decide +kernel
theorem ft_13_234 : e_FT 13 234 = some (13, 3, 0) := by decide +kernel
theorem ft_13_250 : e_FT 13 250 = some (13, 45, 0) := by decide +kernel
theorem ft_13_253 : e_FT 13 253 = some (13, 32, 0) := by decide +kernel
theorem ft_13_267 : e_FT 13 267 = some (13, 13, 0) := by decide +kernel
theorem ft_13_270 : e_FT 13 270 = some (13, 14, 0) := by decide +kernel
theorem ft_13_273 : e_FT 13 273 = some (13, 15, 0) := by decide +kernel
theorem ft_13_276 : e_FT 13 276 = some (13, 16, 0) := by decide +kernel
theorem ft_13_282 : e_FT 13 282 = some (13, 29, 1) := by decide +kernel
theorem ft_13_286 : e_FT 13 286 = some (13, 30, 0) := by decide +kernel
theorem ft_13_303 : e_FT 13 303 = some (13, 25, 0) := by decide +kernel
theorem ft_13_309 : e_FT 13 309 = some (13, 27, 1) := by decide +kernel
theorem ft_13_312 : e_FT 13 312 = some (13, 28, 0) := by decide +kernel
theorem ft_13_336 : e_FT 13 336 = some (13, 26, 0) := by decide +kernel
theorem ft_13_342 : e_FT 13 342 = some (13, 44, 0) := by decide +kernel
theorem ft_13_358 : e_FT 13 358 = some (13, 80, 0) := by decide +kernel
theorem ft_13_370 : e_FT 13 370 = some (13, 62, 0) := by decide +kernel
theorem ft_13_379 : e_FT 13 379 = some (13, 72, 0) := by decide +kernel
theorem ft_13_395 : e_FT 13 395 = some (13, 87, 0) := by decide +kernel
theorem ft_13_412 : e_FT 13 412 = some (13, 66, 0) := by decide +kernel
theorem ft_13_449 : e_FT 13 449 = some (13, 65, 0) := by decide +kernel
theorem ft_13_452 : e_FT 13 452 = some (13, 33, 0) := by decide +kernel
theorem ft_13_455 : e_FT 13 455 = some (13, 64, 0) := by decide +kernel
theorem ft_13_468 : e_FT 13 468 = some (13, 0, 0) := by decide +kernel
theorem ft_13_477 : e_FT 13 477 = some (13, 93, 0) := by decide +kernel
theorem ft_13_483 : e_FT 13 483 = some (13, 94, 0) := by decide +kernel
theorem ft_13_486 : e_FT 13 486 = some (13, 92, 0) := by decide +kernel
theorem ft_13_493 : e_FT 13 493 = some (13, 63, 0) := by decide +kernel
theorem ft_13_499 : e_FT 13 499 = some (13, 60, 0) := by decide +kernel
theorem mt_1_3 : e_MT 1 3 = some (5, 0, 0, 0) := by decide +kernel
theorem mt_2_3 : e_MT 2 3 = some (5, 0, 0, 0) := by decide +kernel
theorem mt_2_20 : e_MT 2 20 = some (4, 0, 0, 1) := by decide +kernel
theorem mt_2_47 : e_MT 2 47 = some (0, 10, 1, 2) := by decide +kernel
theorem mt_3_3 : e_MT 3 3 = some (5, 0, 0, 0) := by decide +kernel
theorem mt_3_38 : e_MT 3 38 = some (3, 122, 5, 12) := by decide +kernel
theorem mt_3_42 : e_MT 3 42 = some (0, 14, 0, 3) := by decide +kernel
theorem mt_3_46 : e_MT 3 46 = some (3, 120, 2, 12) := by decide +kernel
theorem mt_4_1 : e_MT 4 1 = some (5, 0, 0, 0) := by decide +kernel
theorem mt_4_9 : e_MT 4 9 = some (2, 244, 0, 0) := by decide +kernel
theorem mt_4_20 : e_MT 4 20 = some (0, 251, 0, 0) := by decide +kernel
theorem mt_4_24 : e_MT 4 24 = some (0, 248, 1, 0) := by decide +kernel
theorem mt_4_30 : e_MT 4 30 = some (0, 245, 1, 0) := by decide +kernel
theorem mt_4_34 : e_MT 4 34 = some (0, 249, 0, 0) := by decide +kernel
theorem mt_4_38 : e_MT 4 38 = some (0, 250, 1, 0) := by decide +kernel
theorem mt_4_47 : e_MT 4 47 = some (0, 21, 0, 4) := by decide +kernel
theorem mt_5_3 : e_MT 5 3 = some (5, 0, 0, 0) := by decide +kernel
theorem mt_6_3 : e_MT 6 3 = some (5, 0, 0, 0) := by decide +kernel
theorem mt_6_34 : e_MT 6 34 = some (0, 32, 1, 6) := by decide +kernel
theorem mt_7_3 : e_MT 7 3 = some (5, 0, 0, 0) := by decide +kernel
theorem mt_7_36 : e_MT 7 36 = some (2, 33, 7, 7) := by decide +kernel
theorem mt_7_48 : e_MT 7 48 = some (3, 120, 2, 12) := by decide +kernel
theorem mt_8_3 : e_MT 8 3 = some (5, 0, 0, 0) := by decide +kernel
theorem mt_8_19 : e_MT 8 19 = some (4, 23, 0, 5) := by decide +kernel
theorem mt_8_28 : e_MT 8 28 = some (0, 39, 1, 8) := by decide +kernel
theorem mt_8_32 : e_MT 8 32 = some (4, 65, 0, 11) := by decide +kernel
theorem mt_8_36 : e_MT 8 36 = some (0, 66, 4, 11) := by decide +kernel
theorem mt_8_49 : e_MT 8 49 = some (0, 24, 0, 5) := by decide +kernel
theorem mt_8_52 : e_MT 8 52 = some (3, 119, 2, 12) := by decide +kernel
theorem mt_8_59 : e_MT 8 59 = some (0, 44, 2, 8) := by decide +kernel
theorem mt_8_63 : e_MT 8 63 = some (0, 45, 3, 8) := by decide +kernel
theorem mt_8_67 : e_MT 8 67 = some (0, 46, 1, 8) := by decide +kernel
theorem mt_8_71 : e_MT 8 71 = some (0, 73, 4, 11) := by decide +kernel
theorem mt_8_75 : e_MT 8 75 = some (0, 25, 1, 5) := by decide +kernel
theorem mt_8_78 : e_MT 8 78 = some (0, 77, 2, 11) := by decide +kernel
theorem mt_8_82 : e_MT 8 82 = some (0, 76, 2, 11) := by decide +kernel
theorem mt_8_85 : e_MT 8 85 = some (0, 75, 2, 11) := by decide +kernel
theorem mt_8_88 : e_MT 8 88 = some (0, 83, 4, 11) := by decide +kernel
theorem mt_8_94 : e_MT 8 94 = some (3, 118, 1, 12) := by decide +kernel
theorem mt_8_98 : e_MT 8 98 = some (0, 47, 2, 8) := by decide +kernel
theorem mt_8_102 : e_MT 8 102 = some (0, 43, 4, 8) := by decide +kernel
theorem mt_8_125 : e_MT 8 125 = some (0, 72, 1, 11) := by decide +kernel
theorem mt_8_129 : e_MT 8 129 = some (0, 40, 3, 8) := by decide +kernel
theorem mt_8_133 : e_MT 8 133 = some (0, 67, 1, 11) := by decide +kernel
theorem mt_9_3 : e_MT 9 3 = some (5, 0, 0, 0) := by decide +kernel
theorem mt_9_11 : e_MT 9 11 = some (2, 244, 0, 0) := by decide +kernel
theorem mt_9_32 : e_MT 9 32 = some (0, 247, 0, 0) := by decide +kernel
theorem mt_9_38 : e_MT 9 38 = some (0, 62, 2, 9) := by decide +kernel
theorem mt_9_42 : e_MT 9 42 = some (0, 251, 0, 0) := by decide +kernel
theorem mt_9_46 : e_MT 9 46 = some (0, 248, 1, 0) := by decide +kernel
theorem mt_9_52 : e_MT 9 52 = some (0, 12, 1, 3) := by decide +kernel
theorem mt_9_64 : e_MT 9 64 = some (0, 55, 2, 9) := by decide +kernel
theorem mt_9_68 : e_MT 9 68 = some (0, 245, 1, 0) := by decide +kernel
theorem mt_9_72 : e_MT 9 72 = some (0, 246, 2, 0) := by decide +kernel
theorem mt_9_75 : e_MT 9 75 = some (0, 13, 2, 3) := by decide +kernel
theorem mt_9_84 : e_MT 9 84 = some (0, 56, 1, 9) := by decide +kernel
theorem mt_9_88 : e_MT 9 88 = some (0, 250, 1, 0) := by decide +kernel
theorem mt_9_98 : e_MT 9 98 = some (8, 0, 5, 0) := by decide +kernel
theorem mt_9_104 : e_MT 9 104 = some (7, 0, 2, 0) := by decide +kernel
theorem mt_10_1 : e_MT 10 1 = some (5, 0, 0, 0) := by decide +kernel
theorem mt_11_3 : e_MT 11 3 = some (5, 0, 0, 0) := by decide +kernel
theorem mt_11_25 : e_MT 11 25 = some (3, 118, 1, 12) := by decide +kernel
theorem mt_11_32 : e_MT 11 32 = some (0, 66, 4, 11) := by decide +kernel
theorem mt_11_36 : e_MT 11 36 = some (8, 0, 5, 0) := by decide +kernel
theorem mt_11_42 : e_MT 11 42 = some (0, 70, 0, 11) := by decide +kernel
theorem mt_11_46 : e_MT 11 46 = some (0, 69, 1, 11) := by decide +kernel
theorem mt_11_49 : e_MT 11 49 = some (0, 25, 1, 5) := by decide +kernel
theorem mt_11_58 : e_MT 11 58 = some (0, 77, 2, 11) := by decide +kernel
theorem mt_11_62 : e_MT 11 62 = some (0, 78, 2, 11) := by decide +kernel
theorem mt_11_65 : e_MT 11 65 = some (1, 243, 1, 15) := by decide +kernel
theorem mt_11_71 : e_MT 11 71 = some (0, 75, 2, 11) := by decide +kernel
theorem mt_11_74 : e_MT 11 74 = some (0, 76, 2, 11) := by decide +kernel
theorem mt_11_77 : e_MT 11 77 = some (0, 74, 4, 11) := by decide +kernel
theorem mt_11_81 : e_MT 11 81 = some (0, 79, 3, 11) := by decide +kernel
theorem mt_11_85 : e_MT 11 85 = some (0, 80, 3, 11) := by decide +kernel
theorem mt_11_88 : e_MT 11 88 = some (0, 82, 4, 11) := by decide +kernel
theorem mt_11_99 : e_MT 11 99 = some (0, 81, 3, 11) := by decide +kernel
theorem mt_11_102 : e_MT 11 102 = some (6, 0, 2, 0) := by decide +kernel
theorem mt_11_108 : e_MT 11 108 = some (0, 84, 1, 11) := by decide +kernel
theorem mt_11_111 : e_MT 11 111 = some (0, 85, 3, 11) := by decide +kernel
theorem mt_12_3 : e_MT 12 3 = some (5, 0, 0, 0) := by decide +kernel
theorem mt_12_11 : e_MT 12 11 = some (4, 38, 0, 8) := by decide +kernel
theorem mt_12_30 : e_MT 12 30 = some (2, 244, 0, 0) := by decide +kernel
theorem mt_12_43 : e_MT 12 43 = some (4, 16, 0, 4) := by decide +kernel
theorem mt_12_50 : e_MT 12 50 = some (4, 27, 0, 6) := by decide +kernel
theorem mt_12_57 : e_MT 12 57 = some (4, 64, 0, 10) := by decide +kernel
theorem mt_12_69 : e_MT 12 69 = some (0, 39, 1, 8) := by decide +kernel
theorem mt_12_79 : e_MT 12 79 = some (0, 249, 0, 0) := by decide +kernel
theorem mt_12_89 : e_MT 12 89 = some (1, 118, 1, 12) := by decide +kernel
theorem mt_12_93 : e_MT 12 93 = some (0, 40, 3, 8) := by decide +kernel
theorem mt_12_97 : e_MT 12 97 = some (0, 131, 1, 12) := by decide +kernel
theorem mt_12_103 : e_MT 12 103 = some (2, 33, 7, 7) := by decide +kernel
theorem mt_12_106 : e_MT 12 106 = some (0, 19, 1, 4) := by decide +kernel
theorem mt_12_113 : e_MT 12 113 = some (0, 71, 0, 11) := by decide +kernel
theorem mt_12_117 : e_MT 12 117 = some (0, 132, 2, 12) := by decide +kernel
theorem mt_12_121 : e_MT 12 121 = some (0, 126, 1, 12) := by decide +kernel
theorem mt_12_133 : e_MT 12 133 = some (0, 6, 0, 2) := by decide +kernel
theorem mt_12_136 : e_MT 12 136 = some (0, 127, 1, 12) := by decide +kernel
theorem mt_12_140 : e_MT 12 140 = some (0, 60, 1, 9) := by decide +kernel
theorem mt_12_144 : e_MT 12 144 = some (0, 7, 0, 2) := by decide +kernel
theorem mt_12_147 : e_MT 12 147 = some (0, 136, 2, 12) := by decide +kernel
theorem mt_12_151 : e_MT 12 151 = some (0, 134, 3, 12) := by decide +kernel
theorem mt_12_155 : e_MT 12 155 = some (0, 137, 1, 12) := by decide +kernel
theorem mt_12_161 : e_MT 12 161 = some (0, 245, 1, 0) := by decide +kernel
theorem mt_12_165 : e_MT 12 165 = some (0, 251, 0, 0) := by decide +kernel
theorem mt_12_173 : e_MT 12 173 = some (0, 22, 0, 4) := by decide +kernel
theorem mt_12_176 : e_MT 12 176 = some (0, 17, 0, 4) := by decide +kernel
theorem mt_12_177 : e_MT 12 177 = some (0, 147, 3, 12) := by decide +kernel
theorem mt_12_181 : e_MT 12 181 = some (0, 148, 2, 12) := by decide +kernel
theorem mt_12_185 : e_MT 12 185 = some (0, 133, 1, 12) := by decide +kernel
theorem mt_12_188 : e_MT 12 188 = some (0, 5, 0, 2) := by decide +kernel
theorem mt_12_191 : e_MT 12 191 = some (0, 135, 2, 12) := by decide +kernel
theorem mt_12_203 : e_MT 12 203 = some (1, 121, 3, 12) := by decide +kernel
theorem mt_12_211 : e_MT 12 211 = some (0, 8, 0, 2) := by decide +kernel
theorem mt_12_218 : e_MT 12 218 = some (0, 1, 4, 1) := by decide +kernel
theorem mt_12_239 : e_MT 12 239 = some (0, 129, 1, 12) := by decide +kernel
theorem mt_12_246 : e_MT 12 246 = some (0, 248, 1, 0) := by decide +kernel
theorem mt_12_250 : e_MT 12 250 = some (0, 15, 1, 3) := by decide +kernel
theorem mt_12_257 : e_MT 12 257 = some (0, 29, 1, 6) := by decide +kernel
theorem mt_12_266 : e_MT 12 266 = some (0, 21, 0, 4) := by decide +kernel
theorem mt_12_269 : e_MT 12 269 = some (0, 149, 1, 12) := by decide +kernel
theorem mt_12_272 : e_MT 12 272 = some (0, 151, 0, 12) := by decide +kernel
theorem mt_12_278 : e_MT 12 278 = some (0, 18, 1, 4) := by decide +kernel
theorem mt_12_282 : e_MT 12 282 = some (0, 37, 1, 7) := by decide +kernel
theorem mt_12_283 : e_MT 12 283 = some (0, 63, 1, 9) := by decide +kernel
theorem mt_12_286 : e_MT 12 286 = some (1, 122, 5, 12) := by decide +kernel
theorem mt_12_290 : e_MT 12 290 = some (1, 124, 3, 12) := by decide +kernel
theorem mt_12_297 : e_MT 12 297 = some (0, 125, 6, 12) := by decide +kernel
theorem mt_12_316 : e_MT 12 316 = some (0, 50, 1, 8) := by decide +kernel
theorem mt_12_324 : e_MT 12 324 = some (0, 26, 1, 5) := by decide +kernel
theorem mt_12_329 : e_MT 12 329 = some (0, 128, 1, 12) := by decide +kernel
theorem mt_12_338 : e_MT 12 338 = some (0, 130, 0, 12) := by decide +kernel
theorem mt_12_354 : e_MT 12 354 = some (1, 120, 2, 12) := by decide +kernel
theorem mt_12_358 : e_MT 12 358 = some (1, 123, 3, 12) := by decide +kernel
theorem mt_12_361 : e_MT 12 361 = some (1, 119, 2, 12) := by decide +kernel
theorem mt_12_364 : e_MT 12 364 = some (0, 68, 1, 11) := by decide +kernel
theorem mt_12_367 : e_MT 12 367 = some (0, 48, 4, 8) := by decide +kernel
theorem mt_12_370 : e_MT 12 370 = some (0, 72, 1, 11) := by decide +kernel
theorem mt_12_373 : e_MT 12 373 = some (0, 61, 1, 9) := by decide +kernel
theorem mt_12_374 : e_MT 12 374 = some (4, 52, 0, 9) := by decide +kernel
theorem mt_12_375 : e_MT 12 375 = some (0, 53, 2, 9) := by decide +kernel
theorem mt_12_379 : e_MT 12 379 = some (2, 4, 3, 2) := by decide +kernel
theorem mt_12_387 : e_MT 12 387 = some (0, 57, 1, 9) := by decide +kernel
theorem mt_12_391 : e_MT 12 391 = some (0, 250, 1, 0) := by decide +kernel
theorem mt_12_394 : e_MT 12 394 = some (0, 59, 3, 9) := by decide +kernel
theorem mt_12_397 : e_MT 12 397 = some (0, 35, 1, 7) := by decide +kernel
theorem mt_12_401 : e_MT 12 401 = some (0, 49, 1, 8) := by decide +kernel
theorem mt_12_407 : e_MT 12 407 = some (0, 34, 1, 7) := by decide +kernel
theorem mt_12_411 : e_MT 12 411 = some (0, 138, 1, 12) := by decide +kernel
theorem mt_12_414 : e_MT 12 414 = some (0, 142, 1, 12) := by decide +kernel
theorem mt_12_417 : e_MT 12 417 = some (0, 144, 1, 12) := by decide +kernel
theorem mt_12_420 : e_MT 12 420 = some (0, 143, 0, 12) := by decide +kernel
theorem mt_12_424 : e_MT 12 424 = some (0, 139, 1, 12) := by decide +kernel
theorem mt_12_428 : e_MT 12 428 = some (0, 54, 1, 9) := by decide +kernel
theorem mt_12_437 : e_MT 12 437 = some (0, 140, 1, 12) := by decide +kernel
theorem mt_12_441 : e_MT 12 441 = some (0, 3, 1, 1) := by decide +kernel
theorem mt_12_445 : e_MT 12 445 = some (0, 41, 2, 8) := by decide +kernel
theorem mt_12_448 : e_MT 12 448 = some (2, 11, 5, 3) := by decide +kernel
theorem mt_12_451 : e_MT 12 451 = some (1, 141, 4, 12) := by decide +kernel
theorem mt_12_455 : e_MT 12 455 = some (0, 2, 0, 1) := by decide +kernel
theorem mt_12_461 : e_MT 12 461 = some (7, 0, 2, 0) := by decide +kernel
theorem mt_12_466 : e_MT 12 466 = some (6, 0, 2, 0) := by decide +kernel
theorem mt_12_469 : e_MT 12 469 = some (0, 42, 1, 8) := by decide +kernel
theorem mt_12_472 : e_MT 12 472 = some (0, 43, 4, 8) := by decide +kernel
theorem mt_12_481 : e_MT 12 481 = some (0, 58, 0, 9) := by decide +kernel
theorem mt_12_487 : e_MT 12 487 = some (0, 145, 0, 12) := by decide +kernel
theorem mt_12_490 : e_MT 12 490 = some (0, 31, 1, 6) := by decide +kernel
theorem mt_12_493 : e_MT 12 493 = some (0, 146, 0, 12) := by decide +kernel
theorem mt_12_499 : e_MT 12 499 = some (0, 56, 1, 9) := by decide +kernel
theorem mt_12_503 : e_MT 12 503 = some (0, 55, 2, 9) := by decide +kernel
theorem mt_12_507 : e_MT 12 507 = some (0, 30, 3, 6) := by decide +kernel
theorem mt_12_511 : e_MT 12 511 = some (0, 9, 2, 2) := by decide +kernel
theorem mt_12_517 : e_MT 12 517 = some (0, 36, 0, 7) := by decide +kernel
theorem mt_12_521 : e_MT 12 521 = some (0, 62, 2, 9) := by decide +kernel
theorem mt_12_524 : e_MT 12 524 = some (0, 150, 1, 12) := by decide +kernel
theorem mt_12_527 : e_MT 12 527 = some (0, 247, 0, 0) := by decide +kernel
theorem mt_12_530 : e_MT 12 530 = some (0, 20, 0, 4) := by decide +kernel
theorem mt_12_533 : e_MT 12 533 = some (0, 28, 0, 6) := by decide +kernel
theorem mt_12_536 : e_MT 12 536 = some (0, 51, 1, 8) := by decide +kernel
theorem mt_13_1 : e_MT 13 1 = some (5, 0, 0, 0) := by decide +kernel
theorem mt_13_237 : e_MT 13 237 = some (1, 153, 3, 13) := by decide +kernel
theorem mt_13_241 : e_MT 13 241 = some (0, 154, 1, 13) := by decide +kernel
theorem mt_13_245 : e_MT 13 245 = some (0, 155, 1, 13) := by decide +kernel
theorem mt_13_256 : e_MT 13 256 = some (0, 156, 2, 13) := by decide +kernel
theorem mt_13_260 : e_MT 13 260 = some (0, 159, 1, 13) := by decide +kernel
theorem mt_13_263 : e_MT 13 263 = some (0, 163, 8, 13) := by decide +kernel
theorem mt_13_279 : e_MT 13 279 = some (0, 165, 0, 13) := by decide +kernel
theorem mt_13_289 : e_MT 13 289 = some (1, 171, 2, 13) := by decide +kernel
theorem mt_13_293 : e_MT 13 293 = some (1, 172, 5, 13) := by decide +kernel
theorem mt_13_297 : e_MT 13 297 = some (0, 168, 1, 13) := by decide +kernel
theorem mt_13_306 : e_MT 13 306 = some (0, 175, 2, 13) := by decide +kernel
theorem mt_13_315 : e_MT 13 315 = some (1, 170, 2, 13) := by decide +kernel
theorem mt_13_318 : e_MT 13 318 = some (0, 174, 2, 13) := by decide +kernel
theorem mt_13_322 : e_MT 13 322 = some (0, 180, 3, 13) := by decide +kernel
theorem mt_13_326 : e_MT 13 326 = some (0, 177, 1, 13) := by decide +kernel
theorem mt_13_329 : e_MT 13 329 = some (0, 178, 3, 13) := by decide +kernel
theorem mt_13_332 : e_MT 13 332 = some (0, 179, 4, 13) := by decide +kernel
theorem mt_13_339 : e_MT 13 339 = some (0, 176, 1, 13) := by decide +kernel
theorem mt_13_345 : e_MT 13 345 = some (0, 184, 2, 13) := by decide +kernel
theorem mt_13_349 : e_MT 13 349 = some (0, 183, 1, 13) := by decide +kernel
theorem mt_13_352 : e_MT 13 352 = some (0, 182, 1, 13) := by decide +kernel
theorem mt_13_355 : e_MT 13 355 = some (0, 188, 2, 13) := by decide +kernel
theorem mt_13_361 : e_MT 13 361 = some (0, 199, 1, 13) := by decide +kernel
theorem mt_13_364 : e_MT 13 364 = some (0, 197, 2, 13) := by decide +kernel
theorem mt_13_367 : e_MT 13 367 = some (0, 187, 1, 13) := by decide +kernel
theorem mt_13_373 : e_MT 13 373 = some (0, 189, 2, 13) := by decide +kernel
theorem mt_13_376 : e_MT 13 376 = some (0, 216, 0, 13) := by decide +kernel
theorem mt_13_382 : e_MT 13 382 = some (0, 196, 2, 13) := by decide +kernel
theorem mt_13_385 : e_MT 13 385 = some (0, 198, 2, 13) := by decide +kernel
theorem mt_13_388 : e_MT 13 388 = some (1, 200, 3, 13) := by decide +kernel
theorem mt_13_391 : e_MT 13 391 = some (0, 201, 7, 13) := by decide +kernel
theorem mt_13_398 : e_MT 13 398 = some (0, 208, 4, 13) := by decide +kernel
theorem mt_13_402 : e_MT 13 402 = some (0, 209, 2, 13) := by decide +kernel
theorem mt_13_405 : e_MT 13 405 = some (0, 210, 3, 13) := by decide +kernel
theorem mt_13_409 : e_MT 13 409 = some (0, 211, 1, 13) := by decide +kernel
theorem mt_13_415 : e_MT 13 415 = some (0, 206, 5, 13) := by decide +kernel
theorem mt_13_418 : e_MT 13 418 = some (0, 205, 2, 13) := by decide +kernel
theorem mt_13_421 : e_MT 13 421 = some (0, 203, 2, 13) := by decide +kernel
theorem mt_13_425 : e_MT 13 425 = some (0, 202, 5, 13) := by decide +kernel
theorem mt_13_428 : e_MT 13 428 = some (0, 204, 6, 13) := by decide +kernel
theorem mt_13_432 : e_MT 13 432 = some (0, 213, 4, 13) := by decide +kernel
theorem mt_13_436 : e_MT 13 436 = some (0, 221, 1, 13) := by decide +kernel
theorem mt_13_439 : e_MT 13 439 = some (0, 207, 5, 13) := by decide +kernel
theorem mt_13_443 : e_MT 13 443 = some (0, 214, 1, 13) := by decide +kernel
theorem mt_13_446 : e_MT 13 446 = some (0, 181, 4, 13) := by decide +kernel
theorem mt_13_458 : e_MT 13 458 = some (0, 215, 0, 13) := by decide +kernel
theorem mt_13_462 : e_MT 13 462 = some (0, 212, 1, 13) := by decide +kernel
theorem mt_13_465 : e_MT 13 465 = some (0, 217, 2, 13) := by decide +kernel
theorem mt_13_471 : e_MT 13 471 = some (0, 218, 1, 13) := by decide +kernel
theorem mt_13_474 : e_MT 13 474 = some (0, 219, 1, 13) := by decide +kernel
theorem mt_13_480 : e_MT 13 480 = some (0, 220, 2, 13) := by decide +kernel
theorem mt_13_489 : e_MT 13 489 = some (0, 225, 4, 13) := by decide +kernel
theorem mt_13_496 : e_MT 13 496 = some (0, 230, 1, 13) := by decide +kernel
theorem mt_13_502 : e_MT 13 502 = some (0, 231, 2, 13) := by decide +kernel
theorem mt_13_505 : e_MT 13 505 = some (0, 158, 2, 13) := by decide +kernel
theorem mt_13_508 : e_MT 13 508 = some (0, 157, 2, 13) := by decide +kernel
theorem mt_13_511 : e_MT 13 511 = some (0, 236, 1, 13) := by decide +kernel
theorem mt_13_514 : e_MT 13 514 = some (0, 240, 3, 13) := by decide +kernel
theorem mt_13_517 : e_MT 13 517 = some (0, 238, 1, 13) := by decide +kernel
theorem mt_13_520 : e_MT 13 520 = some (0, 239, 2, 13) := by decide +kernel
theorem mt_14_9 : e_MT 14 9 = some (2, 86, 0, 12) := by decide +kernel
theorem mt_14_12 : e_MT 14 12 = some (2, 152, 0, 13) := by decide +kernel
theorem mt_14_13 : e_MT 14 13 = some (0, 87, 3, 12) := by decide +kernel
theorem mt_14_17 : e_MT 14 17 = some (0, 160, 3, 13) := by decide +kernel
theorem mt_14_18 : e_MT 14 18 = some (0, 88, 2, 12) := by decide +kernel
theorem mt_14_22 : e_MT 14 22 = some (0, 161, 2, 13) := by decide +kernel
theorem mt_14_23 : e_MT 14 23 = some (0, 90, 1, 12) := by decide +kernel
theorem mt_14_27 : e_MT 14 27 = some (0, 185, 1, 13) := by decide +kernel
theorem mt_14_28 : e_MT 14 28 = some (0, 91, 1, 12) := by decide +kernel
theorem mt_14_31 : e_MT 14 31 = some (0, 191, 1, 13) := by decide +kernel
theorem mt_14_32 : e_MT 14 32 = some (0, 92, 1, 12) := by decide +kernel
theorem mt_14_35 : e_MT 14 35 = some (0, 192, 1, 13) := by decide +kernel
theorem mt_14_36 : e_MT 14 36 = some (0, 93, 1, 12) := by decide +kernel
theorem mt_14_39 : e_MT 14 39 = some (0, 193, 1, 13) := by decide +kernel
theorem mt_14_40 : e_MT 14 40 = some (0, 94, 1, 12) := by decide +kernel
theorem mt_14_43 : e_MT 14 43 = some (0, 194, 1, 13) := by decide +kernel
theorem mt_14_44 : e_MT 14 44 = some (0, 95, 2, 12) := by decide +kernel
theorem mt_14_47 : e_MT 14 47 = some (0, 195, 2, 13) := by decide +kernel
theorem mt_14_48 : e_MT 14 48 = some (0, 96, 1, 12) := by decide +kernel
theorem mt_14_51 : e_MT 14 51 = some (0, 232, 1, 13) := by decide +kernel
theorem mt_14_52 : e_MT 14 52 = some (0, 97, 1, 12) := by decide +kernel
theorem mt_14_55 : e_MT 14 55 = some (0, 190, 1, 13) := by decide +kernel
theorem mt_14_56 : e_MT 14 56 = some (0, 98, 1, 12) := by decide +kernel
theorem mt_14_59 : e_MT 14 59 = some (0, 186, 1, 13) := by decide +kernel
theorem mt_14_60 : e_MT 14 60 = some (0, 99, 5, 12) := by decide +kernel
theorem mt_14_64 : e_MT 14 64 = some (0, 226, 5, 13) := by decide +kernel
theorem mt_14_65 : e_MT 14 65 = some (0, 100, 2, 12) := by decide +kernel
theorem mt_14_68 : e_MT 14 68 = some (0, 227, 2, 13) := by decide +kernel
theorem mt_14_69 : e_MT 14 69 = some (0, 101, 3, 12) := by decide +kernel
theorem mt_14_72 : e_MT 14 72 = some (0, 228, 3, 13) := by decide +kernel
theorem mt_14_73 : e_MT 14 73 = some (0, 102, 3, 12) := by decide +kernel
theorem mt_14_76 : e_MT 14 76 = some (0, 229, 3, 13) := by decide +kernel
theorem mt_14_77 : e_MT 14 77 = some (0, 103, 1, 12) := by decide +kernel
theorem mt_14_80 : e_MT 14 80 = some (0, 222, 1, 13) := by decide +kernel
theorem mt_14_81 : e_MT 14 81 = some (0, 104, 1, 12) := by decide +kernel
theorem mt_14_84 : e_MT 14 84 = some (0, 223, 1, 13) := by decide +kernel
theorem mt_14_85 : e_MT 14 85 = some (0, 105, 1, 12) := by decide +kernel
theorem mt_14_88 : e_MT 14 88 = some (0, 224, 1, 13) := by decide +kernel
theorem mt_14_89 : e_MT 14 89 = some (0, 106, 1, 12) := by decide +kernel
theorem mt_14_92 : e_MT 14 92 = some (0, 167, 1, 13) := by decide +kernel
theorem mt_14_93 : e_MT 14 93 = some (0, 107, 0, 12) := by decide +kernel
theorem mt_14_97 : e_MT 14 97 = some (0, 166, 0, 13) := by decide +kernel
theorem mt_14_98 : e_MT 14 98 = some (0, 108, 1, 12) := by decide +kernel
theorem mt_14_101 : e_MT 14 101 = some (0, 236, 1, 13) := by decide +kernel
theorem mt_14_102 : e_MT 14 102 = some (0, 109, 0, 12) := by decide +kernel
theorem mt_14_105 : e_MT 14 105 = some (0, 237, 0, 13) := by decide +kernel
theorem mt_14_106 : e_MT 14 106 = some (0, 110, 2, 12) := by decide +kernel
theorem mt_14_109 : e_MT 14 109 = some (0, 164, 2, 13) := by decide +kernel
theorem mt_14_110 : e_MT 14 110 = some (0, 111, 1, 12) := by decide +kernel
theorem mt_14_113 : e_MT 14 113 = some (0, 233, 1, 13) := by decide +kernel
theorem mt_14_114 : e_MT 14 114 = some (0, 112, 2, 12) := by decide +kernel
theorem mt_14_117 : e_MT 14 117 = some (0, 234, 2, 13) := by decide +kernel
theorem mt_14_118 : e_MT 14 118 = some (0, 113, 5, 12) := by decide +kernel
theorem mt_14_121 : e_MT 14 121 = some (0, 173, 5, 13) := by decide +kernel
theorem mt_14_122 : e_MT 14 122 = some (0, 114, 5, 12) := by decide +kernel
theorem mt_14_125 : e_MT 14 125 = some (0, 241, 5, 13) := by decide +kernel
theorem mt_14_126 : e_MT 14 126 = some (0, 115, 0, 12) := by decide +kernel
theorem mt_14_129 : e_MT 14 129 = some (0, 235, 0, 13) := by decide +kernel
theorem mt_14_130 : e_MT 14 130 = some (0, 116, 1, 12) := by decide +kernel
theorem mt_14_133 : e_MT 14 133 = some (0, 169, 1, 13) := by decide +kernel
theorem mt_14_134 : e_MT 14 134 = some (0, 117, 1, 12) := by decide +kernel
theorem mt_14_137 : e_MT 14 137 = some (0, 242, 1, 13) := by decide +kernel
theorem mt_14_138 : e_MT 14 138 = some (0, 89, 0, 12) := by decide +kernel
theorem mt_14_141 : e_MT 14 141 = some (0, 162, 0, 13) := by decide +kernel
theorem ct_12_9 : e_CT 12 9 = some 8 := by decide +kernel
theorem ct_12_22 : e_CT 12 22 = some 9 := by decide +kernel
theorem ct_12_28 : e_CT 12 28 = some 0 := by decide +kernel
theorem ct_12_41 : e_CT 12 41 = some 4 := by decide +kernel
theorem ct_12_48 : e_CT 12 48 = some 6 := by decide +kernel
theorem ct_12_55 : e_CT 12 55 = some 10 := by decide +kernel
theorem ct_12_101 : e_CT 12 101 = some 7 := by decide +kernel
theorem ct_12_126 : e_CT 12 126 = some 2 := by decide +kernel
theorem ct_12_235 : e_CT 12 235 = some 3 := by decide +kernel
theorem ct_2_18 : e_CT 2 18 = some 1 := by decide +kernel
theorem ct_4_7 : e_CT 4 7 = some 0 := by decide +kernel
theorem ct_4_28 : e_CT 4 28 = some 7 := by decide +kernel
theorem ct_7_10 : e_CT 7 10 = some 7 := by decide +kernel
theorem ct_8_9 : e_CT 8 9 = some 11 := by decide +kernel
theorem ct_8_17 : e_CT 8 17 = some 5 := by decide +kernel
theorem ct_9_9 : e_CT 9 9 = some 0 := by decide +kernel
theorem ct_9_50 : e_CT 9 50 = some 3 := by decide +kernel
theorem ct_14_7 : e_CT 14 7 = some 12 := by decide +kernel
theorem ct_14_10 : e_CT 14 10 = some 13 := by decide +kernel
theorem it_12_78 : e_IT 12 78 = some 1000000000 := by decide +kernel
theorem it_12_353 : e_IT 12 353 = some 1330369 := by decide +kernel
theorem it_12_410 : e_IT 12 410 = some 100000 := by decide +kernel
theorem it_13_249 : e_IT 13 249 = some 1000000000 := by decide +kernel
theorem it_15_265 : e_IT 15 265 = some 1431655765 := by decide +kernel
theorem it_15_266 : e_IT 15 266 = some 858993459 := by decide +kernel
theorem it_15_267 : e_IT 15 267 = some 252645135 := by decide +kernel
theorem lt_8_105 : e_LT 8 105 = some 4294967295 := by decide +kernel
theorem lt_11_94 : e_LT 11 94 = some 1000000000 := by decide +kernel
theorem lt_13_301 : e_LT 13 301 = some 1000000000 := by decide +kernel
