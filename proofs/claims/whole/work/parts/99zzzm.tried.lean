/-! tried, as a call -/
section XS
variable {g : e_G} {k o pc n pe : Nat} {tg : List Nat} {r : List e_En} {lv : e_Lv} {st : List Value} {h : e_Hp} {J : e_J} {Ψ : e_Q}
theorem x_lload_13 {a0 a1 a2 a3 a4 a5 a6 a7 a8 a9 a10 a11 a12 : Option Value} {t : e_Lv}{x : Int64} : e_exec g k o ((pc, .lload 13, n, tg) :: r) pe (a0 :: a1 :: a2 :: a3 :: a4 :: a5 :: a6 :: a7 :: a8 :: a9 :: a10 :: a11 :: a12 :: some (.long x) :: t) st h J Ψ = e_exec g k o r pe (a0 :: a1 :: a2 :: a3 :: a4 :: a5 :: a6 :: a7 :: a8 :: a9 :: a10 :: a11 :: a12 :: some (.long x) :: t) (.long x :: st) h J Ψ := by (simp only [e_exec, e_step] <;> rfl)
theorem x_lload_15 {a0 a1 a2 a3 a4 a5 a6 a7 a8 a9 a10 a11 a12 a13 a14 : Option Value} {t : e_Lv}{x : Int64} : e_exec g k o ((pc, .lload 15, n, tg) :: r) pe (a0 :: a1 :: a2 :: a3 :: a4 :: a5 :: a6 :: a7 :: a8 :: a9 :: a10 :: a11 :: a12 :: a13 :: a14 :: some (.long x) :: t) st h J Ψ = e_exec g k o r pe (a0 :: a1 :: a2 :: a3 :: a4 :: a5 :: a6 :: a7 :: a8 :: a9 :: a10 :: a11 :: a12 :: a13 :: a14 :: some (.long x) :: t) (.long x :: st) h J Ψ := by (simp only [e_exec, e_step] <;> rfl)
theorem x_lstore_13 {a0 a1 a2 a3 a4 a5 a6 a7 a8 a9 a10 a11 a12 a13 a14 : Option Value} {t : e_Lv}{x : Int64} : e_exec g k o ((pc, .lstore 13, n, tg) :: r) pe (a0 :: a1 :: a2 :: a3 :: a4 :: a5 :: a6 :: a7 :: a8 :: a9 :: a10 :: a11 :: a12 :: a13 :: a14 :: t) (.long x :: st) h J Ψ = e_exec g k o r pe (a0 :: a1 :: a2 :: a3 :: a4 :: a5 :: a6 :: a7 :: a8 :: a9 :: a10 :: a11 :: e_cl a12 :: some (.long x) :: none :: t) st h J Ψ := by (simp only [e_exec, e_step, e_p1i, e_p1a, e_p1l, e_sto, e_sto2, e_st2, e_st1]; exact propext ⟨fun q => q.2, fun q => ⟨by (first | (simp; done) | (simp only [List.length_cons]; show (_ : Nat) < _; omega) | (show (3 : Nat) < _; simp only [List.length_cons]; omega)), q⟩⟩)
theorem x_lstore_15 {a0 a1 a2 a3 a4 a5 a6 a7 a8 a9 a10 a11 a12 a13 a14 a15 a16 : Option Value} {t : e_Lv}{x : Int64} : e_exec g k o ((pc, .lstore 15, n, tg) :: r) pe (a0 :: a1 :: a2 :: a3 :: a4 :: a5 :: a6 :: a7 :: a8 :: a9 :: a10 :: a11 :: a12 :: a13 :: a14 :: a15 :: a16 :: t) (.long x :: st) h J Ψ = e_exec g k o r pe (a0 :: a1 :: a2 :: a3 :: a4 :: a5 :: a6 :: a7 :: a8 :: a9 :: a10 :: a11 :: a12 :: a13 :: e_cl a14 :: some (.long x) :: none :: t) st h J Ψ := by (simp only [e_exec, e_step, e_p1i, e_p1a, e_p1l, e_sto, e_sto2, e_st2, e_st1]; exact propext ⟨fun q => q.2, fun q => ⟨by (first | (simp; done) | (simp only [List.length_cons]; show (_ : Nat) < _; omega) | (show (3 : Nat) < _; simp only [List.length_cons]; omega)), q⟩⟩)
end XS
section VP
variable {g : e_G} {own : Nat} {r0 : Nat × Nat} {Ψ : e_Q} {B : Nat → Option e_Cl} {Z Z1 Z2 : k_Z} {P P1 P2 : k_P} {U U1 U2 : k_U} {r r1 r2 : Nat × Nat} {S : m_S} {N n o m sl x y t t0 t1 z i k k2 : Nat} {a a2 : Int32}
theorem Fz.two (h : Fz own Z P U r Z1 P1 U1 r1) (e0 : U1.2.2 (own + 10) 0 = some t0) (e1 : U1.2.2 (own + 10) 1 = some t1) (hf : ∀ f y, y ≠ t0 → y ≠ t1 → y ≠ own + 11 → P2.1 f y = P1.1 f y) (hf2 : ∀ y, y ≠ t0 + 1 → y ≠ t1 + 1 → y ≠ own + 12 → P2.2 y = P1.2 y) : Fz own Z P U r Z1 P2 U1 r1 := by
  obtain ⟨a1, a2, a3, a4, a5, a6, a7, a8, a9, b1⟩ := h
  refine ⟨a1, a2, a3, a4, a5, a6, fun f a h0 h1 h2 h3 => ?_, fun a h0 h1 h2 => ?_, a9, b1⟩
  · rw [hf f a (fun w => h1 0 (by rw [e0, w])) (fun w => h1 1 (by rw [e1, w])) h3]
    exact a7 f a h0 h1 h2 h3
  · rw [hf2 a (h1 0 t0 e0) (h1 1 t1 e1) h2]
    exact a8 a h0 h1 h2
theorem has5 : ∀ k, k < 18 → y_has 5 (nI k) = true → k ≠ 7 → 12 ≤ k ∧ k ≤ 14 := by decide
theorem perf_rn {s' : Int32} {s : Nat} (hs : P.1 220 (k_th U s o) = s') (hh : y_has s' (nI k) = true) (hk : k < 18) : k_perf P U s n o (nI k) a 1 = rn P (k_th U s o) (s + 2) k a := by
  unfold k_perf rn
  have i21 : y_isIn (nI k) 0 21 = true := in_tr (nI_pos' (by omega)) (by rw [show (21 : Int32) = nI 21 from rfl]; exact nI_le (by omega) (by omega))
  have ne : ∀ m : Nat, 18 ≤ m → m ≤ 20 → ¬ nI k = nI m := fun m h1 h2 => by rw [i_eq (by omega) (by omega)]; omega
  have n18 : ¬ nI k = 18 := ne 18 (by omega) (by omega)
  have n19 : ¬ nI k = 19 := ne 19 (by omega) (by omega)
  have n20 : ¬ nI k = 20 := ne 20 (by omega) (by omega)
  rw [hs, i21, hh, if_pos (by decide), if_neg n18, if_neg n19, if_neg n20]
theorem s_same (hg : e_GK g) (E : k_E N own Z U r) (E1 : k_E N own Z1 U1 (m, sl)) (fz : Fz own Z P U r Z1 P1 U1 (m, sl)) (hz : z < 8) (hi : i < 9) (h4 : z = 4 → i < 3) (hk : k < 18) (hk2 : k2 < 18) (hh : y_has (nI z) (nI k) = true) (hh2 : y_has (nI z) (nI k2) = true) (har : ar_R n o k a 1) (har2 : ar_R n o k2 a2 1) (hit : S.1 29 = 0) (hzS : w_sz S.2)
    (q : ∀ Z2 P2 U2 r2, k_E N own Z2 U2 r2 → Fz own Z P U r Z2 P2 U2 r2 → r2.1 ≤ m + 4 → r2.2 ≤ sl + 26 → FX S (y_tr1 (nI z) (nI k) a (nI k2) a2 i S).2 → Ψ (some (.int (b_v (y_tr1 (nI z) (nI k) a (nI k2) a2 i S).1))) (K_H Z2 P2 U2 (B, r2))) :
    e_Sc g 125 [.ref own, .int (nI z), .int (nI i), .int (nI k), .int a, .int (nI k2), .int a2] (K_H Z1 P1 U1 (B, (m, sl))) Ψ := by
  have tO := E1.2.1
  obtain ⟨a1, a2', a3, a4, a5, a6, a7, a8, a9, a10⟩ := E1.1.hse tO
  have a3' : Z1.1 (own + 9) = 9 := a3
  refine e_call (cd := cd125) hg ok125 (by rw [mL125]; exact Nat.le_of_ble_eq_true rfl) ?_
  rw [mL125]
  simp only [x_ini, x_inr, x_inn, x_inq, x_inl, x_in0, x_rp0, x_rps, Nat.reduceSub]
  simp (decide := true) (disch := first | assumption | omega) only [↓u125_0, ↓u125_58, ↓u125_60, ↓u125_160, ↓u125_161, ↓x_nil, ↓x_om, ↓x_aload_0r, ↓x_aload_0n, ↓x_aload_0q, ↓x_getfield, ft_12_19, ↓x_iconst_0, ↓x_putfield, ft_12_86, x_fit0, x_fit1, x_fit2r, x_fit2n, x_fit2q, ↓x_iload_1, ↓x_iconst_m1, ↓x_invokevirtual, mt_12_93, x_ps0, x_ps1, x_l40, x_l41, x_l42, x_l43, x_l44, ↓x_cv3, mt_12_69, ↓x_cv1, ↓x_astore_7r, ↓x_astore_7n, ↓x_astore_7q, x_cl_i, x_cl_r, x_cl_n, x_cl_q, x_cl_0, x_cl_l, ↓x_iconst_1, ↓x_astore_8r, ↓x_astore_8n, ↓x_astore_8q, ↓x_aload_7r, ↓x_aload_7n, ↓x_aload_7q, ↓x_ifnull_n, ↓x_ifnull_r, ↓x_ifnull_q, ↓x_aload_8r, ↓x_aload_8n, ↓x_aload_8q, ↓x_ifnonnull_n, ↓x_ifnonnull_r, ↓x_ifnonnull_q, ↓x_ireturn, rt125, ↓x_iload_2, mt_12_364, ↓x_iload_3, ↓x_iload_4, mt_12_367, ↓x_cv4, ↓x_lstore_9, ↓x_iload_5, ↓x_iload_6, ↓x_lstore_11, ↓x_lstore_13, ↓x_lstore_15, ↓x_lload_9, ↓x_lload_15, ↓x_lcmp, ↓x_if_ne, ↓x_lload_11, ↓x_lload_13, mt_12_370, ↓x_if_eq, ↓x_goto, Int.reduceAdd, Nat.reduceAdd, true_and, and_true, true_or, or_true, false_or, or_false, reduceCtorEq, false_and, and_false, and_self, or_self, false_implies, true_implies, not_true_eq_false, not_false_eq_true, implies_true, Option.some.injEq, kg12, kv12_2, kg8, kv8_1, kw8_1, k_rs, k_rn, k_r2, k_c2, ki8, ki11, up_s, up_n]
  have k0 : k_Sh Z1 (k_wr P1 161 (own + 9) 0) U1 (own + 9) 0 := ⟨a3, k_rs, by omega, fun o ho => by omega⟩
  have fz0 := fz.size (v := 0)
  refine s_put hg E1 k0 (by omega) (fun t0 Z2 P2 U2 r2 pt1 hx1 => ?_)
  have fz1 := fz0.put E pt1 hx1
  obtain ⟨E2, tt0, zz2, z22, u21, u22, u23, u24, f21, f22, p21, p22, p23, p24, p25, ro2⟩ := pt1
  have tO2 : Z2.1 own = 13 := E2.2.1
  have b3 : Z2.1 (own + 9) = 9 := (E2.1.hse tO2).2.2.1
  have u23' : U2.2.2 (own + 9 + 1) 0 = some t0 := by rw [u23, up_s]
  have k1 : k_Sh Z2 P2 U2 (own + 9) 1 := ⟨b3, p25, by omega, fun o ho => by
    have : o = 0 := by omega
    subst this
    unfold k_th
    rw [u23']; rfl⟩
  simp (decide := true) (disch := first | assumption | omega) only [↓u125_0, ↓u125_58, ↓u125_60, ↓u125_160, ↓u125_161, ↓x_nil, ↓x_om, ↓x_aload_0r, ↓x_aload_0n, ↓x_aload_0q, ↓x_getfield, ft_12_19, ↓x_iconst_0, ↓x_putfield, ft_12_86, x_fit0, x_fit1, x_fit2r, x_fit2n, x_fit2q, ↓x_iload_1, ↓x_iconst_m1, ↓x_invokevirtual, mt_12_93, x_ps0, x_ps1, x_l40, x_l41, x_l42, x_l43, x_l44, ↓x_cv3, mt_12_69, ↓x_cv1, ↓x_astore_7r, ↓x_astore_7n, ↓x_astore_7q, x_cl_i, x_cl_r, x_cl_n, x_cl_q, x_cl_0, x_cl_l, ↓x_iconst_1, ↓x_astore_8r, ↓x_astore_8n, ↓x_astore_8q, ↓x_aload_7r, ↓x_aload_7n, ↓x_aload_7q, ↓x_ifnull_n, ↓x_ifnull_r, ↓x_ifnull_q, ↓x_aload_8r, ↓x_aload_8n, ↓x_aload_8q, ↓x_ifnonnull_n, ↓x_ifnonnull_r, ↓x_ifnonnull_q, ↓x_ireturn, rt125, ↓x_iload_2, mt_12_364, ↓x_iload_3, ↓x_iload_4, mt_12_367, ↓x_cv4, ↓x_lstore_9, ↓x_iload_5, ↓x_iload_6, ↓x_lstore_11, ↓x_lstore_13, ↓x_lstore_15, ↓x_lload_9, ↓x_lload_15, ↓x_lcmp, ↓x_if_ne, ↓x_lload_11, ↓x_lload_13, mt_12_370, ↓x_if_eq, ↓x_goto, Int.reduceAdd, Nat.reduceAdd, true_and, and_true, true_or, or_true, false_or, or_false, reduceCtorEq, false_and, and_false, and_self, or_self, false_implies, true_implies, not_true_eq_false, not_false_eq_true, implies_true, Option.some.injEq, kg12, kv12_2, kg8, kv8_1, kw8_1, k_rs, k_rn, k_r2, k_c2, ki8, ki11, up_s, up_n]
  refine s_put hg (m := r2.1) (sl := r2.2) E2 k1 (by omega) (fun t1 Z3 P3 U3 r3 pt2 hx2 => ?_)
  have fz2 := fz1.put E pt2 hx2
  obtain ⟨E3, tt1, zz3, z32, u31, u32, u33, u34, f31, f32, p31, p32, p33, p34, p35, ro3⟩ := pt2
  have tO3 : Z3.1 own = 13 := E3.2.1
  have c3 : Z3.1 (own + 9) = 9 := (E3.1.hse tO3).2.2.1
  obtain ⟨s1, s2, s3⟩ := E3.1.shf c3
  have w0 : U3.2.2 (own + 9 + 1) 0 = some t0 := by rw [u33, up_n (by omega)]; exact u23'
  have w1 : U3.2.2 (own + 9 + 1) 1 = some t1 := by rw [u33, up_s]
  have th0 : k_th U3 (own + 9) 0 = t0 := by unfold k_th; rw [w0]; rfl
  have th1 : k_th U3 (own + 9) 1 = t1 := by unfold k_th; rw [w1]; rfl
  have n01 : t0 ≠ t1 := fun e => by
    have := (E3.2.2.2.1 _ 0 _ 1 t1 (Or.inl s1) (Or.inl s1) (by rw [← e]; exact w0) w1).2
    omega
  have k2' : k_Sh Z3 P3 U3 (own + 9) 2 := ⟨c3, p35, by omega, fun o ho => by
    have : o = 0 ∨ o = 1 := by omega
    rcases this with e | e <;> subst e
    · rw [th0]; exact w0
    · rw [th1]; exact w1⟩
  have tz0 : Z3.1 t0 = 12 := E3.1.xth s1 w0
  have tz1 : Z3.1 t1 = 12 := E3.1.xth s1 w1
  have tc0 := E3.1.thg tz0
  have tc1 := E3.1.thg tz1
  have t0l : t0 < r2.1 := E2.lt (by rw [tt0]; decide)
  have h0 : P3.1 220 t0 = nI z := by rw [f31 _ _ t0l n01 (Or.inl (by decide))]; exact p21
  have hp : P3.1 221 t0 = P3.1 221 t1 := by rw [f31 _ _ t0l n01 (Or.inl (by decide)), p22, p32]
  have n0 : t0 ≠ own + 9 + 2 := fun e => by rw [e, s2] at tz0; exact absurd tz0 (by decide)
  have n1 : t1 ≠ own + 9 + 2 := fun e => by rw [e, s2] at tz1; exact absurd tz1 (by decide)
  have g0 : t0 ≠ own + 9 := fun e => by rw [e, c3] at tz0; exact absurd tz0 (by decide)
  have g1 : t1 ≠ own + 9 := fun e => by rw [e, c3] at tz1; exact absurd tz1 (by decide)
  have es4 : nI z = 4 → i < 3 := fun e => h4 (by rw [show (4 : Int32) = nI 4 from rfl, i_eq (by omega) (by omega)] at e; exact e)
  obtain ⟨y1, y2, y3, y4, y5, y6, y7, y8, y9⟩ := tr1_ok (S := S) (p := own + 9 + 2) h0 p31 hp n01 n0 n1 hi es4 hk hk2 hh hh2 har har2 hit hzS
  have ros : r3.1 ≤ m + 4 ∧ r3.2 ≤ sl + 26 := by
    obtain ⟨o1, o2, o3, o4, _⟩ := ro2
    obtain ⟨x1, x2, x3, x4, _⟩ := ro3
    rw [z22] at o3 o4
    rw [z32, z22] at x3 x4
    dsimp only at o3 o4 x3 x4
    exact ⟨by omega, by omega⟩
  have fz3 : Fz own Z P U r Z3 (Pd P3 t0 t1 (own + 9 + 2) i k k2 a a2) U3 r3 := fz2.two w0 w1 (fun f y h1 h2 h3 => (y3 f y h1 h2 h3).2.2.2) (fun y h1 h2 h3 => y4 y h1 h2 h3)
  have fin := q Z3 (Pd P3 t0 t1 (own + 9 + 2) i k k2 a a2) U3 r3 E3 fz3 ros.1 ros.2 y2
  rw [← y1] at fin
  have szA : ∀ f, (Pa P3 t0 t1 (own + 9 + 2) i k k2 a a2).1 f (own + 9) = P3.1 f (own + 9) ∧ (Pb P3 t0 t1 (own + 9 + 2) i k k2 a a2).1 f (own + 9) = P3.1 f (own + 9) ∧ (Pc P3 t0 t1 (own + 9 + 2) i k k2 a a2).1 f (own + 9) = P3.1 f (own + 9) ∧ (Pd P3 t0 t1 (own + 9 + 2) i k k2 a a2).1 f (own + 9) = P3.1 f (own + 9) := fun f => y3 f _ (Ne.symm g0) (Ne.symm g1) (by omega)
  have h5 : ∀ {kk : Nat} {aa : Int32}, kk < 18 → y_has (nI z) (nI kk) = true → ar_R n o kk aa 1 → z = 5 → ¬ nI kk = 7 → ¬ nI kk = 21 → ∃ j, j < 8 ∧ aa = nI j := fun {kk aa} b1 b2 b3 b4 b5 _ => by
    rw [b4] at b2
    have : kk ≠ 7 := fun e => b5 (by rw [e]; rfl)
    obtain ⟨c1, c2⟩ := has5 kk b1 b2 this
    exact b3.2.1 c1 c2
  have hq4 : ∀ {P : k_P} {t : Nat} {A : m_A}, R_vl P t A 120 (nI z) → z = 4 → ∃ v, v ≤ 8 ∧ P.1 223 t = nI v := fun h e => by
    obtain ⟨v, v1, v2, _⟩ := h.1 (by rw [e]; rfl)
    exact ⟨v, v1, v2⟩
  simp (decide := true) (disch := first | assumption | omega) only [↓u125_0, ↓u125_58, ↓u125_60, ↓u125_160, ↓u125_161, ↓x_nil, ↓x_om, ↓x_aload_0r, ↓x_aload_0n, ↓x_aload_0q, ↓x_getfield, ft_12_19, ↓x_iconst_0, ↓x_putfield, ft_12_86, x_fit0, x_fit1, x_fit2r, x_fit2n, x_fit2q, ↓x_iload_1, ↓x_iconst_m1, ↓x_invokevirtual, mt_12_93, x_ps0, x_ps1, x_l40, x_l41, x_l42, x_l43, x_l44, ↓x_cv3, mt_12_69, ↓x_cv1, ↓x_astore_7r, ↓x_astore_7n, ↓x_astore_7q, x_cl_i, x_cl_r, x_cl_n, x_cl_q, x_cl_0, x_cl_l, ↓x_iconst_1, ↓x_astore_8r, ↓x_astore_8n, ↓x_astore_8q, ↓x_aload_7r, ↓x_aload_7n, ↓x_aload_7q, ↓x_ifnull_n, ↓x_ifnull_r, ↓x_ifnull_q, ↓x_aload_8r, ↓x_aload_8n, ↓x_aload_8q, ↓x_ifnonnull_n, ↓x_ifnonnull_r, ↓x_ifnonnull_q, ↓x_ireturn, rt125, ↓x_iload_2, mt_12_364, ↓x_iload_3, ↓x_iload_4, mt_12_367, ↓x_cv4, ↓x_lstore_9, ↓x_iload_5, ↓x_iload_6, ↓x_lstore_11, ↓x_lstore_13, ↓x_lstore_15, ↓x_lload_9, ↓x_lload_15, ↓x_lcmp, ↓x_if_ne, ↓x_lload_11, ↓x_lload_13, mt_12_370, ↓x_if_eq, ↓x_goto, Int.reduceAdd, Nat.reduceAdd, true_and, and_true, true_or, or_true, false_or, or_false, reduceCtorEq, false_and, and_false, and_self, or_self, false_implies, true_implies, not_true_eq_false, not_false_eq_true, implies_true, Option.some.injEq, kg12, kv12_2, kg8, kv8_1, kw8_1, k_rs, k_rn, k_r2, k_c2, ki8, ki11, up_s, up_n]
  refine h_thingS (o := 0) hg E3.1 k2' (by omega) ?_
  rw [th0]
  simp (decide := true) (disch := first | assumption | omega) only [↓u125_0, ↓u125_58, ↓u125_60, ↓u125_160, ↓u125_161, ↓x_nil, ↓x_om, ↓x_aload_0r, ↓x_aload_0n, ↓x_aload_0q, ↓x_getfield, ft_12_19, ↓x_iconst_0, ↓x_putfield, ft_12_86, x_fit0, x_fit1, x_fit2r, x_fit2n, x_fit2q, ↓x_iload_1, ↓x_iconst_m1, ↓x_invokevirtual, mt_12_93, x_ps0, x_ps1, x_l40, x_l41, x_l42, x_l43, x_l44, ↓x_cv3, mt_12_69, ↓x_cv1, ↓x_astore_7r, ↓x_astore_7n, ↓x_astore_7q, x_cl_i, x_cl_r, x_cl_n, x_cl_q, x_cl_0, x_cl_l, ↓x_iconst_1, ↓x_astore_8r, ↓x_astore_8n, ↓x_astore_8q, ↓x_aload_7r, ↓x_aload_7n, ↓x_aload_7q, ↓x_ifnull_n, ↓x_ifnull_r, ↓x_ifnull_q, ↓x_aload_8r, ↓x_aload_8n, ↓x_aload_8q, ↓x_ifnonnull_n, ↓x_ifnonnull_r, ↓x_ifnonnull_q, ↓x_ireturn, rt125, ↓x_iload_2, mt_12_364, ↓x_iload_3, ↓x_iload_4, mt_12_367, ↓x_cv4, ↓x_lstore_9, ↓x_iload_5, ↓x_iload_6, ↓x_lstore_11, ↓x_lstore_13, ↓x_lstore_15, ↓x_lload_9, ↓x_lload_15, ↓x_lcmp, ↓x_if_ne, ↓x_lload_11, ↓x_lload_13, mt_12_370, ↓x_if_eq, ↓x_goto, Int.reduceAdd, Nat.reduceAdd, true_and, and_true, true_or, or_true, false_or, or_false, reduceCtorEq, false_and, and_false, and_self, or_self, false_implies, true_implies, not_true_eq_false, not_false_eq_true, implies_true, Option.some.injEq, kg12, kv12_2, kg8, kv8_1, kw8_1, k_rs, k_rn, k_r2, k_c2, ki8, ki11, up_s, up_n]
  refine h_thingS (o := 1) hg E3.1 k2' (by omega) ?_
  rw [th1]
  simp (decide := true) (disch := first | assumption | omega) only [↓u125_0, ↓u125_58, ↓u125_60, ↓u125_160, ↓u125_161, ↓x_nil, ↓x_om, ↓x_aload_0r, ↓x_aload_0n, ↓x_aload_0q, ↓x_getfield, ft_12_19, ↓x_iconst_0, ↓x_putfield, ft_12_86, x_fit0, x_fit1, x_fit2r, x_fit2n, x_fit2q, ↓x_iload_1, ↓x_iconst_m1, ↓x_invokevirtual, mt_12_93, x_ps0, x_ps1, x_l40, x_l41, x_l42, x_l43, x_l44, ↓x_cv3, mt_12_69, ↓x_cv1, ↓x_astore_7r, ↓x_astore_7n, ↓x_astore_7q, x_cl_i, x_cl_r, x_cl_n, x_cl_q, x_cl_0, x_cl_l, ↓x_iconst_1, ↓x_astore_8r, ↓x_astore_8n, ↓x_astore_8q, ↓x_aload_7r, ↓x_aload_7n, ↓x_aload_7q, ↓x_ifnull_n, ↓x_ifnull_r, ↓x_ifnull_q, ↓x_aload_8r, ↓x_aload_8n, ↓x_aload_8q, ↓x_ifnonnull_n, ↓x_ifnonnull_r, ↓x_ifnonnull_q, ↓x_ireturn, rt125, ↓x_iload_2, mt_12_364, ↓x_iload_3, ↓x_iload_4, mt_12_367, ↓x_cv4, ↓x_lstore_9, ↓x_iload_5, ↓x_iload_6, ↓x_lstore_11, ↓x_lstore_13, ↓x_lstore_15, ↓x_lload_9, ↓x_lload_15, ↓x_lcmp, ↓x_if_ne, ↓x_lload_11, ↓x_lload_13, mt_12_370, ↓x_if_eq, ↓x_goto, Int.reduceAdd, Nat.reduceAdd, true_and, and_true, true_or, or_true, false_or, or_false, reduceCtorEq, false_and, and_false, and_self, or_self, false_implies, true_implies, not_true_eq_false, not_false_eq_true, implies_true, Option.some.injEq, kg12, kv12_2, kg8, kv8_1, kw8_1, k_rs, k_rn, k_r2, k_c2, ki8, ki11, up_s, up_n]
  refine h_becomeSmall hg tz0 tc0 ?_
  simp (decide := true) (disch := first | assumption | omega) only [↓u125_0, ↓u125_58, ↓u125_60, ↓u125_160, ↓u125_161, ↓x_nil, ↓x_om, ↓x_aload_0r, ↓x_aload_0n, ↓x_aload_0q, ↓x_getfield, ft_12_19, ↓x_iconst_0, ↓x_putfield, ft_12_86, x_fit0, x_fit1, x_fit2r, x_fit2n, x_fit2q, ↓x_iload_1, ↓x_iconst_m1, ↓x_invokevirtual, mt_12_93, x_ps0, x_ps1, x_l40, x_l41, x_l42, x_l43, x_l44, ↓x_cv3, mt_12_69, ↓x_cv1, ↓x_astore_7r, ↓x_astore_7n, ↓x_astore_7q, x_cl_i, x_cl_r, x_cl_n, x_cl_q, x_cl_0, x_cl_l, ↓x_iconst_1, ↓x_astore_8r, ↓x_astore_8n, ↓x_astore_8q, ↓x_aload_7r, ↓x_aload_7n, ↓x_aload_7q, ↓x_ifnull_n, ↓x_ifnull_r, ↓x_ifnull_q, ↓x_aload_8r, ↓x_aload_8n, ↓x_aload_8q, ↓x_ifnonnull_n, ↓x_ifnonnull_r, ↓x_ifnonnull_q, ↓x_ireturn, rt125, ↓x_iload_2, mt_12_364, ↓x_iload_3, ↓x_iload_4, mt_12_367, ↓x_cv4, ↓x_lstore_9, ↓x_iload_5, ↓x_iload_6, ↓x_lstore_11, ↓x_lstore_13, ↓x_lstore_15, ↓x_lload_9, ↓x_lload_15, ↓x_lcmp, ↓x_if_ne, ↓x_lload_11, ↓x_lload_13, mt_12_370, ↓x_if_eq, ↓x_goto, Int.reduceAdd, Nat.reduceAdd, true_and, and_true, true_or, or_true, false_or, or_false, reduceCtorEq, false_and, and_false, and_self, or_self, false_implies, true_implies, not_true_eq_false, not_false_eq_true, implies_true, Option.some.injEq, kg12, kv12_2, kg8, kv8_1, kw8_1, k_rs, k_rn, k_r2, k_c2, ki8, ki11, up_s, up_n]
  refine h_becomeSmall hg tz1 tc1 ?_
  have sA := sml_r (P := P3) (t := t0) (j := nI i) (x := t0)
  have sB := sml_r (P := k_sml P3 t0 (nI i)) (t := t1) (j := nI i) (x := t0)
  have e00 : (k_sml (k_sml P3 t0 (nI i)) t1 (nI i)).1 220 t0 = nI z := by rw [sB.1 _ _ (Or.inl (by decide)), sA.1 _ _ (Or.inl (by decide))]; exact h0
  have kS : k_Sh Z3 (k_sml (k_sml P3 t0 (nI i)) t1 (nI i)) U3 (own + 9) 2 := k2'.keep (by rw [sB.1 _ _ (Or.inl (by decide)), sA.1 _ _ (Or.inl (by decide))])
  have ef0 : ∀ (Q : k_P), Q.1 220 t0 = nI z → ∀ (kk : Nat) (aa : Int32), kk < 18 → y_has (nI z) (nI kk) = true → k_perf Q U3 (own + 9) 2 0 (nI kk) aa 1 = rn Q t0 (own + 9 + 2) kk aa := fun Q h kk aa b1 b2 => by
    have := perf_rn (P := Q) (U := U3) (s := own + 9) (n := 2) (o := 0) (a := aa) (by rw [th0]; exact h) b2 b1
    rw [th0] at this
    exact this
  have ef1 : ∀ (Q : k_P), Q.1 220 t1 = nI z → ∀ (kk : Nat) (aa : Int32), kk < 18 → y_has (nI z) (nI kk) = true → k_perf Q U3 (own + 9) 2 1 (nI kk) aa 1 = rn Q t1 (own + 9 + 2) kk aa := fun Q h kk aa b1 b2 => by
    have := perf_rn (P := Q) (U := U3) (s := own + 9) (n := 2) (o := 1) (a := aa) (by rw [th1]; exact h) b2 b1
    rw [th1] at this
    exact this
  have sa0 : (Pa P3 t0 t1 (own + 9 + 2) i k k2 a a2).1 220 t0 = nI z := ((y9 _ (by decide)).1).trans h0
  have sb1 : (Pb P3 t0 t1 (own + 9 + 2) i k k2 a a2).1 220 t1 = nI z := ((y9 _ (by decide)).2.2.1).trans p31
  have sc1 : (Pc P3 t0 t1 (own + 9 + 2) i k k2 a a2).1 220 t1 = nI z := ((y9 _ (by decide)).2.2.2).trans p31
  simp (decide := true) (disch := first | assumption | omega) only [↓u125_0, ↓u125_58, ↓u125_60, ↓u125_160, ↓u125_161, ↓x_nil, ↓x_om, ↓x_aload_0r, ↓x_aload_0n, ↓x_aload_0q, ↓x_getfield, ft_12_19, ↓x_iconst_0, ↓x_putfield, ft_12_86, x_fit0, x_fit1, x_fit2r, x_fit2n, x_fit2q, ↓x_iload_1, ↓x_iconst_m1, ↓x_invokevirtual, mt_12_93, x_ps0, x_ps1, x_l40, x_l41, x_l42, x_l43, x_l44, ↓x_cv3, mt_12_69, ↓x_cv1, ↓x_astore_7r, ↓x_astore_7n, ↓x_astore_7q, x_cl_i, x_cl_r, x_cl_n, x_cl_q, x_cl_0, x_cl_l, ↓x_iconst_1, ↓x_astore_8r, ↓x_astore_8n, ↓x_astore_8q, ↓x_aload_7r, ↓x_aload_7n, ↓x_aload_7q, ↓x_ifnull_n, ↓x_ifnull_r, ↓x_ifnull_q, ↓x_aload_8r, ↓x_aload_8n, ↓x_aload_8q, ↓x_ifnonnull_n, ↓x_ifnonnull_r, ↓x_ifnonnull_q, ↓x_ireturn, rt125, ↓x_iload_2, mt_12_364, ↓x_iload_3, ↓x_iload_4, mt_12_367, ↓x_cv4, ↓x_lstore_9, ↓x_iload_5, ↓x_iload_6, ↓x_lstore_11, ↓x_lstore_13, ↓x_lstore_15, ↓x_lload_9, ↓x_lload_15, ↓x_lcmp, ↓x_if_ne, ↓x_lload_11, ↓x_lload_13, mt_12_370, ↓x_if_eq, ↓x_goto, Int.reduceAdd, Nat.reduceAdd, true_and, and_true, true_or, or_true, false_or, or_false, reduceCtorEq, false_and, and_false, and_self, or_self, false_implies, true_implies, not_true_eq_false, not_false_eq_true, implies_true, Option.some.injEq, kg12, kv12_2, kg8, kv8_1, kw8_1, k_rs, k_rn, k_r2, k_c2, ki8, ki11, up_s, up_n]
  refine h_outcome (o := 0) (z := z) hg E3.1 kS (by omega) hz (by rw [th0]; exact e00) (by rw [th0]; exact hq4 y5) (h5 hk hh har) ?_
  have Ea : rn (k_sml (k_sml P3 t0 (nI i)) t1 (nI i)) t0 (own + 9 + 2) k a = Pa P3 t0 t1 (own + 9 + 2) i k k2 a a2 := rfl
  have Eb : rn (Pa P3 t0 t1 (own + 9 + 2) i k k2 a a2) t0 (own + 9 + 2) k2 a2 = Pb P3 t0 t1 (own + 9 + 2) i k k2 a a2 := rfl
  have Ec : rn (Pb P3 t0 t1 (own + 9 + 2) i k k2 a a2) t1 (own + 9 + 2) k2 a2 = Pc P3 t0 t1 (own + 9 + 2) i k k2 a a2 := rfl
  have Ed : rn (Pc P3 t0 t1 (own + 9 + 2) i k k2 a a2) t1 (own + 9 + 2) k a = Pd P3 t0 t1 (own + 9 + 2) i k k2 a a2 := rfl
  have oe : ∀ (Q : k_P) (x : Nat), k_oc Q x = ocP Q x := fun _ _ => rfl
  rw [ef0 _ e00 k a hk hh, Ea, oe]
  simp (decide := true) (disch := first | assumption | omega) only [↓u125_0, ↓u125_58, ↓u125_60, ↓u125_160, ↓u125_161, ↓x_nil, ↓x_om, ↓x_aload_0r, ↓x_aload_0n, ↓x_aload_0q, ↓x_getfield, ft_12_19, ↓x_iconst_0, ↓x_putfield, ft_12_86, x_fit0, x_fit1, x_fit2r, x_fit2n, x_fit2q, ↓x_iload_1, ↓x_iconst_m1, ↓x_invokevirtual, mt_12_93, x_ps0, x_ps1, x_l40, x_l41, x_l42, x_l43, x_l44, ↓x_cv3, mt_12_69, ↓x_cv1, ↓x_astore_7r, ↓x_astore_7n, ↓x_astore_7q, x_cl_i, x_cl_r, x_cl_n, x_cl_q, x_cl_0, x_cl_l, ↓x_iconst_1, ↓x_astore_8r, ↓x_astore_8n, ↓x_astore_8q, ↓x_aload_7r, ↓x_aload_7n, ↓x_aload_7q, ↓x_ifnull_n, ↓x_ifnull_r, ↓x_ifnull_q, ↓x_aload_8r, ↓x_aload_8n, ↓x_aload_8q, ↓x_ifnonnull_n, ↓x_ifnonnull_r, ↓x_ifnonnull_q, ↓x_ireturn, rt125, ↓x_iload_2, mt_12_364, ↓x_iload_3, ↓x_iload_4, mt_12_367, ↓x_cv4, ↓x_lstore_9, ↓x_iload_5, ↓x_iload_6, ↓x_lstore_11, ↓x_lstore_13, ↓x_lstore_15, ↓x_lload_9, ↓x_lload_15, ↓x_lcmp, ↓x_if_ne, ↓x_lload_11, ↓x_lload_13, mt_12_370, ↓x_if_eq, ↓x_goto, Int.reduceAdd, Nat.reduceAdd, true_and, and_true, true_or, or_true, false_or, or_false, reduceCtorEq, false_and, and_false, and_self, or_self, false_implies, true_implies, not_true_eq_false, not_false_eq_true, implies_true, Option.some.injEq, kg12, kv12_2, kg8, kv8_1, kw8_1, k_rs, k_rn, k_r2, k_c2, ki8, ki11, up_s, up_n]
  refine h_outcome (o := 0) (z := z) hg E3.1 (k2'.keep (szA _).1) (by omega) hz (by rw [th0]; exact sa0) (by rw [th0]; exact hq4 y6) (h5 hk2 hh2 har2) ?_
  rw [ef0 _ sa0 k2 a2 hk2 hh2, Eb, oe]
  simp (decide := true) (disch := first | assumption | omega) only [↓u125_0, ↓u125_58, ↓u125_60, ↓u125_160, ↓u125_161, ↓x_nil, ↓x_om, ↓x_aload_0r, ↓x_aload_0n, ↓x_aload_0q, ↓x_getfield, ft_12_19, ↓x_iconst_0, ↓x_putfield, ft_12_86, x_fit0, x_fit1, x_fit2r, x_fit2n, x_fit2q, ↓x_iload_1, ↓x_iconst_m1, ↓x_invokevirtual, mt_12_93, x_ps0, x_ps1, x_l40, x_l41, x_l42, x_l43, x_l44, ↓x_cv3, mt_12_69, ↓x_cv1, ↓x_astore_7r, ↓x_astore_7n, ↓x_astore_7q, x_cl_i, x_cl_r, x_cl_n, x_cl_q, x_cl_0, x_cl_l, ↓x_iconst_1, ↓x_astore_8r, ↓x_astore_8n, ↓x_astore_8q, ↓x_aload_7r, ↓x_aload_7n, ↓x_aload_7q, ↓x_ifnull_n, ↓x_ifnull_r, ↓x_ifnull_q, ↓x_aload_8r, ↓x_aload_8n, ↓x_aload_8q, ↓x_ifnonnull_n, ↓x_ifnonnull_r, ↓x_ifnonnull_q, ↓x_ireturn, rt125, ↓x_iload_2, mt_12_364, ↓x_iload_3, ↓x_iload_4, mt_12_367, ↓x_cv4, ↓x_lstore_9, ↓x_iload_5, ↓x_iload_6, ↓x_lstore_11, ↓x_lstore_13, ↓x_lstore_15, ↓x_lload_9, ↓x_lload_15, ↓x_lcmp, ↓x_if_ne, ↓x_lload_11, ↓x_lload_13, mt_12_370, ↓x_if_eq, ↓x_goto, Int.reduceAdd, Nat.reduceAdd, true_and, and_true, true_or, or_true, false_or, or_false, reduceCtorEq, false_and, and_false, and_self, or_self, false_implies, true_implies, not_true_eq_false, not_false_eq_true, implies_true, Option.some.injEq, kg12, kv12_2, kg8, kv8_1, kw8_1, k_rs, k_rn, k_r2, k_c2, ki8, ki11, up_s, up_n]
  refine h_outcome (o := 1) (z := z) hg E3.1 (k2'.keep (szA _).2.1) (by omega) hz (by rw [th1]; exact sb1) (by rw [th1]; exact hq4 y7) (h5 hk2 hh2 har2) ?_
  rw [ef1 _ sb1 k2 a2 hk2 hh2, Ec, oe]
  simp (decide := true) (disch := first | assumption | omega) only [↓u125_0, ↓u125_58, ↓u125_60, ↓u125_160, ↓u125_161, ↓x_nil, ↓x_om, ↓x_aload_0r, ↓x_aload_0n, ↓x_aload_0q, ↓x_getfield, ft_12_19, ↓x_iconst_0, ↓x_putfield, ft_12_86, x_fit0, x_fit1, x_fit2r, x_fit2n, x_fit2q, ↓x_iload_1, ↓x_iconst_m1, ↓x_invokevirtual, mt_12_93, x_ps0, x_ps1, x_l40, x_l41, x_l42, x_l43, x_l44, ↓x_cv3, mt_12_69, ↓x_cv1, ↓x_astore_7r, ↓x_astore_7n, ↓x_astore_7q, x_cl_i, x_cl_r, x_cl_n, x_cl_q, x_cl_0, x_cl_l, ↓x_iconst_1, ↓x_astore_8r, ↓x_astore_8n, ↓x_astore_8q, ↓x_aload_7r, ↓x_aload_7n, ↓x_aload_7q, ↓x_ifnull_n, ↓x_ifnull_r, ↓x_ifnull_q, ↓x_aload_8r, ↓x_aload_8n, ↓x_aload_8q, ↓x_ifnonnull_n, ↓x_ifnonnull_r, ↓x_ifnonnull_q, ↓x_ireturn, rt125, ↓x_iload_2, mt_12_364, ↓x_iload_3, ↓x_iload_4, mt_12_367, ↓x_cv4, ↓x_lstore_9, ↓x_iload_5, ↓x_iload_6, ↓x_lstore_11, ↓x_lstore_13, ↓x_lstore_15, ↓x_lload_9, ↓x_lload_15, ↓x_lcmp, ↓x_if_ne, ↓x_lload_11, ↓x_lload_13, mt_12_370, ↓x_if_eq, ↓x_goto, Int.reduceAdd, Nat.reduceAdd, true_and, and_true, true_or, or_true, false_or, or_false, reduceCtorEq, false_and, and_false, and_self, or_self, false_implies, true_implies, not_true_eq_false, not_false_eq_true, implies_true, Option.some.injEq, kg12, kv12_2, kg8, kv8_1, kw8_1, k_rs, k_rn, k_r2, k_c2, ki8, ki11, up_s, up_n]
  refine h_outcome (o := 1) (z := z) hg E3.1 (k2'.keep (szA _).2.2.1) (by omega) hz (by rw [th1]; exact sc1) (by rw [th1]; exact hq4 y8) (h5 hk hh har) ?_
  rw [ef1 _ sc1 k a hk hh, Ed, oe]
  simp (decide := true) (disch := first | assumption | omega) only [↓u125_0, ↓u125_58, ↓u125_60, ↓u125_160, ↓u125_161, ↓x_nil, ↓x_om, ↓x_aload_0r, ↓x_aload_0n, ↓x_aload_0q, ↓x_getfield, ft_12_19, ↓x_iconst_0, ↓x_putfield, ft_12_86, x_fit0, x_fit1, x_fit2r, x_fit2n, x_fit2q, ↓x_iload_1, ↓x_iconst_m1, ↓x_invokevirtual, mt_12_93, x_ps0, x_ps1, x_l40, x_l41, x_l42, x_l43, x_l44, ↓x_cv3, mt_12_69, ↓x_cv1, ↓x_astore_7r, ↓x_astore_7n, ↓x_astore_7q, x_cl_i, x_cl_r, x_cl_n, x_cl_q, x_cl_0, x_cl_l, ↓x_iconst_1, ↓x_astore_8r, ↓x_astore_8n, ↓x_astore_8q, ↓x_aload_7r, ↓x_aload_7n, ↓x_aload_7q, ↓x_ifnull_n, ↓x_ifnull_r, ↓x_ifnull_q, ↓x_aload_8r, ↓x_aload_8n, ↓x_aload_8q, ↓x_ifnonnull_n, ↓x_ifnonnull_r, ↓x_ifnonnull_q, ↓x_ireturn, rt125, ↓x_iload_2, mt_12_364, ↓x_iload_3, ↓x_iload_4, mt_12_367, ↓x_cv4, ↓x_lstore_9, ↓x_iload_5, ↓x_iload_6, ↓x_lstore_11, ↓x_lstore_13, ↓x_lstore_15, ↓x_lload_9, ↓x_lload_15, ↓x_lcmp, ↓x_if_ne, ↓x_lload_11, ↓x_lload_13, mt_12_370, ↓x_if_eq, ↓x_goto, Int.reduceAdd, Nat.reduceAdd, true_and, and_true, true_or, or_true, false_or, or_false, reduceCtorEq, false_and, and_false, and_self, or_self, false_implies, true_implies, not_true_eq_false, not_false_eq_true, implies_true, Option.some.injEq, lg_0, kg12, kv12_2, kg8, kv8_1, kw8_1, k_rs, k_rn, k_r2, k_c2, ki8, ki11, up_s, up_n]
  refine ⟨fun e1 => ⟨fun e2 => h_sameT hg tz0 tc0 tz1 tc1 ?_, fun e2 => ?_⟩, fun e1 => ?_⟩
  · rw [decide_eq_true e1, decide_eq_true e2, Bool.true_and, Bool.true_and] at fin
    simp (decide := true) (disch := first | assumption | omega) only [↓u125_0, ↓u125_58, ↓u125_60, ↓u125_160, ↓u125_161, ↓x_nil, ↓x_om, ↓x_aload_0r, ↓x_aload_0n, ↓x_aload_0q, ↓x_getfield, ft_12_19, ↓x_iconst_0, ↓x_putfield, ft_12_86, x_fit0, x_fit1, x_fit2r, x_fit2n, x_fit2q, ↓x_iload_1, ↓x_iconst_m1, ↓x_invokevirtual, mt_12_93, x_ps0, x_ps1, x_l40, x_l41, x_l42, x_l43, x_l44, ↓x_cv3, mt_12_69, ↓x_cv1, ↓x_astore_7r, ↓x_astore_7n, ↓x_astore_7q, x_cl_i, x_cl_r, x_cl_n, x_cl_q, x_cl_0, x_cl_l, ↓x_iconst_1, ↓x_astore_8r, ↓x_astore_8n, ↓x_astore_8q, ↓x_aload_7r, ↓x_aload_7n, ↓x_aload_7q, ↓x_ifnull_n, ↓x_ifnull_r, ↓x_ifnull_q, ↓x_aload_8r, ↓x_aload_8n, ↓x_aload_8q, ↓x_ifnonnull_n, ↓x_ifnonnull_r, ↓x_ifnonnull_q, ↓x_ireturn, rt125, ↓x_iload_2, mt_12_364, ↓x_iload_3, ↓x_iload_4, mt_12_367, ↓x_cv4, ↓x_lstore_9, ↓x_iload_5, ↓x_iload_6, ↓x_lstore_11, ↓x_lstore_13, ↓x_lstore_15, ↓x_lload_9, ↓x_lload_15, ↓x_lcmp, ↓x_if_ne, ↓x_lload_11, ↓x_lload_13, mt_12_370, ↓x_if_eq, ↓x_goto, Int.reduceAdd, Nat.reduceAdd, true_and, and_true, true_or, or_true, false_or, or_false, reduceCtorEq, false_and, and_false, and_self, or_self, false_implies, true_implies, not_true_eq_false, not_false_eq_true, implies_true, Option.some.injEq, kg12, kv12_2, kg8, kv8_1, kw8_1, k_rs, k_rn, k_r2, k_c2, ki8, ki11, up_s, up_n]
    refine c_bool (fun w => ?_) (fun w => ?_)
    · rw [w] at fin; exact fin
    · rw [w] at fin; exact fin
  · rw [decide_eq_true e1, decide_eq_false e2, Bool.false_and, Bool.and_false] at fin; exact fin
  · rw [decide_eq_false e1, Bool.false_and] at fin; exact fin
/-- the class tries what the reference tries -/
theorem canT_ok {k a : Int32} (hn : n ≤ 40) : (decide (k < 18) && (y_isIn k 0 21 && y_has (nI z) k) && k_fits k a 0) = !y_badT (nI n) (nI z) k a := by
  have e : (!y_badT (nI n) (nI z) k a) = (y_isIn k 0 17 && y_has (nI z) k && !(k == 17 && a != -1) && y_good (nI n) (-1) k a 0) := by
    unfold y_badT
    cases y_isIn k 0 17 <;> cases y_has (nI z) k <;> cases (k == 17 && a != -1) <;> cases y_good (nI n) (-1) k a 0 <;> rfl
  rw [e]
  by_cases h : 0 ≤ k ∧ k < 18
  · have i17 : y_isIn k 0 17 = true := in_tr h.1 (by
      obtain ⟨j, rfl, hj⟩ := n_of2 h.1 (show k < nI 18 from h.2) (by omega)
      rw [show (17 : Int32) = nI 17 from rfl]; exact nI_le (by omega) (by omega))
    have i21 : y_isIn k 0 21 = true := in_tr h.1 (by
      obtain ⟨j, rfl, hj⟩ := n_of2 h.1 (show k < nI 18 from h.2) (by omega)
      rw [show (21 : Int32) = nI 21 from rfl]; exact nI_le (by omega) (by omega))
    rw [i17, i21, decide_eq_true h.2, Bool.true_and, Bool.true_and]
    have g := good_ok (k := k) (a := a) (b := 0) (o := -1) hn
    rw [i21, Bool.true_and] at g
    have n19 : ¬ k = 19 := fun w => by rw [w] at h; exact absurd h.2 (by decide)
    rw [if_neg n19, Bool.and_true] at g
    rw [g, Bool.and_assoc]
    congr 1
    by_cases c17 : k = 17
    · subst c17
      have f0 : ∀ x : Int32, k_fits 17 a x = (decide (-1 ≤ a) && decide (a < x)) := fun x => by unfold k_fits; simp (decide := true) only [if_false, if_true]
      rw [f0, f0]
      by_cases ca : a = -1
      · subst ca
        rw [decide_eq_true (show (-1 : Int32) < nI n from Int32.lt_of_lt_of_le (by decide : (-1 : Int32) < 0) (nI_pos' (by omega)))]
        rfl
      · have x1 : ¬ (-1 ≤ a ∧ a < 0) := fun w => ca (by
          rw [Int32.le_iff_toInt_le] at w
          have w2 := w.2
          rw [Int32.lt_iff_toInt_lt] at w2
          have e1 : (-1 : Int32).toInt = -1 := by decide
          have e2 : (0 : Int32).toInt = 0 := by decide
          rw [e1] at w
          rw [e2] at w2
          apply Int32.toInt_inj.mp
          rw [e1]
          omega)
        have x2 : (a != -1) = true := by simpa using ca
        rw [x2]
        have : (decide (-1 ≤ a) && decide (a < 0)) = false := by
          rw [Bool.and_eq_false_iff]
          by_cases w : -1 ≤ a
          · exact Or.inr (decide_eq_false (fun y => x1 ⟨w, y⟩))
          · exact Or.inl (decide_eq_false w)
        rw [this]
        rfl
    · have x : (k == 17) = false := by simpa using c17
      rw [x, Bool.false_and, Bool.not_false, Bool.true_and]
      unfold k_fits
      simp only [if_neg c17]
  · have x1 : (decide (k < 18) && (y_isIn k 0 21 && y_has (nI z) k)) = false := by
      by_cases h2 : k < 18
      · have : ¬ 0 ≤ k := fun w => h ⟨w, h2⟩
        rw [in_lo (Int32.not_le.mp this), Bool.false_and, Bool.and_false]
      · rw [decide_eq_false h2, Bool.false_and]
    have x2 : y_isIn k 0 17 = false := in_f (fun w => h ⟨w.1, Int32.lt_of_le_of_lt w.2 (by decide)⟩)
    rw [x1, x2, Bool.false_and, Bool.false_and, Bool.false_and, Bool.false_and]
theorem can_ar {k a : Int32} (h : y_badT (nI n) (nI z) k a = false) : ∃ j, j < 18 ∧ k = nI j ∧ y_has (nI z) (nI j) = true ∧ ar_R 0 0 j a 1 := by
  unfold y_badT at h
  simp only [Bool.or_eq_false_iff, Bool.not_eq_false'] at h
  obtain ⟨⟨⟨h1, h2⟩, h3⟩, h4⟩ := h
  obtain ⟨j, hj, rfl⟩ := io_t (n := 18) (by omega) (show y_isIn k 0 (nI 18 - 1) = true from h1)
  refine ⟨j, hj, rfl, h2, fun b1 b2 => ?_, fun b1 b2 => ?_, fun b => ?_, fun b => Or.inl ?_, fun b => by omega⟩
  · have : y_good (nI n) (-1) (nI j) a 0 = y_isIn a 0 (nI 32 - 1) := by
      rcases (show j = 4 ∨ j = 5 ∨ j = 6 by omega) with w | w | w <;> subst w <;> rfl
    rw [this] at h4
    exact io_t (by omega) h4
  · have : y_good (nI n) (-1) (nI j) a 0 = y_isIn a 0 (nI 8 - 1) := by
      rcases (show j = 12 ∨ j = 13 ∨ j = 14 by omega) with w | w | w <;> subst w <;> rfl
    rw [this] at h4
    exact io_t (by omega) h4
  · have : y_good (nI n) (-1) (nI j) a 0 = y_isIn a 0 (nI 1001 - 1) := by
      rcases (show j = 15 ∨ j = 16 by omega) with w | w <;> subst w <;> rfl
    rw [this] at h4
    obtain ⟨x, x1, x2⟩ := io_t (by omega) h4
    exact ⟨x, by omega, x2⟩
  · subst b
    have : (nI 17 == 17) = true := rfl
    rw [this, Bool.true_and] at h3
    simpa using h3
/-- all small ones, in thought -/
theorem trR_ok (hk : k < 18) (hk2 : k2 < 18) (hh : y_has (nI z) (nI k) = true) (hh2 : y_has (nI z) (nI k2) = true) (har : ar_R n o k a 1) (har2 : ar_R n o k2 a2 1) : ∀ (m i : Nat) (b : Bool) (S : m_S), (∀ j, i ≤ j → j < i + m → j < 9 ∧ (nI z = 4 → j < 3)) → S.1 29 = 0 → w_sz S.2 → FX S (y_trR (nI z) (nI k) a (nI k2) a2 i m b S).2 ∧ (b = false → (y_trR (nI z) (nI k) a (nI k2) a2 i m b S).1 = false)
  | 0, _, _, _, _, _, hz => ⟨FX.rf hz, id⟩
  | m + 1, i, b, S, hj, hit, hz => by
    obtain ⟨j1, j2⟩ := hj i (Nat.le_refl _) (by omega)
    have t1 := (tr1_ok (P := (fun f _ => if f = 220 then nI z else 0, fun _ _ => 0)) (t0 := 10) (t1 := 20) (p := 30) (S := S) (s := nI z) (show (if (220 : Nat) = 220 then nI z else 0) = nI z from if_pos rfl) (show (if (220 : Nat) = 220 then nI z else 0) = nI z from if_pos rfl) rfl (by omega) (by omega) (by omega) j1 j2 hk hk2 hh hh2 har har2 hit hz).2.1
    obtain ⟨q1, q2⟩ := trR_ok hk hk2 hh hh2 har har2 m (i + 1) (b && (y_tr1 (nI z) (nI k) a (nI k2) a2 i S).1) (y_tr1 (nI z) (nI k) a (nI k2) a2 i S).2 (fun j h1 h2 => hj j (by omega) (by omega)) ((t1.1 _ (by decide)).trans hit) t1.2.2.2.2
    rw [y_trR]
    exact ⟨t1.tr q1, fun e => q2 (by rw [e]; rfl)⟩
def smN (z : Nat) : Nat := if z = 1 ∨ z = 2 ∨ z = 6 then 4 else if z = 3 then 8 else if z = 4 then 3 else if z = 5 then 9 else 1
theorem sm_tab : (e_stI 12 293).1 = 8 ∧ ∀ z, z < 8 → (e_stI 12 293).2 z = nI (smN z) := by decide
theorem smN_ok : ∀ z, z < 8 → y_smM (nI z) = nI (smN z) ∧ smN z ≤ 9 ∧ (nI z = 4 → smN z = 3) := by decide
theorem t_tried (hg : e_GK g) {s k a k2 a2 : Int32} : TW g own r0 114 241 [.int s, .int k, .int a, .int k2, .int a2] := by
  intro c Z P U r S B Ψ hc hV q
  have hV0 := hV
  obtain ⟨N, n, b, l, nl, nw, nr, na, ne, ch, T, hI, hK, hR⟩ := hV
  have E := hK.1
  have tO := E.2.1
  have n40 := hI.1.2.2.1.1
  have eob : S.1 3 = nI n := hI.2.2.2.2.2.1.1
  have hit0 : S.1 29 = 0 := hI.2.2.2.2.2.1.2.2.1
  obtain ⟨tq, tq1, tq2⟩ := hI.2.2.2.2.2.1.2.2.2.1
  have trc : 0 ≤ S.1 30 := by rw [tq2]; exact nI_pos' (by omega)
  have bad : ¬ (y_isIn s 0 7 = true ∧ y_badT (nI n) s k a = false ∧ y_badT (nI n) s k2 a2 = false) → Ψ (some (.int (-1))) (K_H Z P U (B, r)) := fun h => q (-1) Z P U r S (hV0.next hc) (fun M h' Φ hq => c_tried hg trc (by
    have : y_tried s k a k2 a2 (S.1, S.2) = (-1, S) := by unfold y_tried; dsimp only; rw [eob, if_neg h]
    rw [this]; exact hq))
  have main : ∀ z j j2, z < 8 → s = nI z → j < 18 → k = nI j → j2 < 18 → k2 = nI j2 → y_has (nI z) (nI j) = true → y_has (nI z) (nI j2) = true → ar_R 0 0 j a 1 → ar_R 0 0 j2 a2 1 → y_tried s k a k2 a2 (S.1, S.2) = (b_v (y_trR s k a k2 a2 0 (smN z) true S).1, (y_trR s k a k2 a2 0 (smN z) true S).2) → e_Sm g 114 12 cd114 Ψ 35 [some (.ref own), some (.int s), some (.int k), some (.int a), some (.int k2), some (.int a2), some (.int (nI 0))] [] (K_H Z P U (B, r)) := by
    intro z j j2 hz rfl hj rfl hj2 rfl hh hh2 har har2 ey
    obtain ⟨sm1, sm2, sm3⟩ := smN_ok z hz
    have fin : ∀ Z1 P1 U1 r1 b' S', y_trR (nI z) (nI j) a (nI j2) a2 0 (smN z) true S = (b', S') → FX S S' → k_E N own Z1 U1 r1 → Fz own Z P U r Z1 P1 U1 r1 → r1.1 ≤ r.1 + 36 → r1.2 ≤ r.2 + 234 → Ψ (some (.int (b_v b'))) (K_H Z1 P1 U1 (B, r1)) := by
      intro Z1 P1 U1 r1 b' S' er fx E1 fz h1 h2
      obtain ⟨x1, x2, x3, x4, x5⟩ := fx
      refine q _ Z1 P1 U1 r1 S' ⟨N, n, b, l, nl, nw, nr, na, ne, ch, T, (I_scr hI x1 x2 (fun x hx => ⟨(x3 x (by omega)).2.1, (x3 x (by omega)).2.2⟩) x5).next hc, K_scr hI hK x1 x2 (fun x hx => x3 x (by omega)) (fun x hx => x4 x (by omega)) E1 fz, ?_⟩ (fun M h Φ hq => c_tried hg trc (by rw [ey, er]; exact hq))
      have la : S'.1 66 = S.1 66 := x1 _ (by decide)
      obtain ⟨y1, y2⟩ := hR
      unfold K_ro
      rw [la, show Z1.2.1 = Z.2.1 by rw [fz.2.1]]
      have key : ∀ a b k t l c : Nat, a ≤ b + 36 → b ≤ k + t + l + 400 * c → a ≤ k + t + l + 400 * (c + 1) := fun a b k t l c h1 h2 => by omega
      have key2 : ∀ a b k t l c : Nat, a ≤ b + 234 → b ≤ k + t + l + 3000 * c → a ≤ k + t + l + 3000 * (c + 1) := fun a b k t l c h1 h2 => Nat.le_trans h1 (Nat.le_trans (Nat.add_le_add_left (Nat.le_of_ble_eq_true rfl : 234 ≤ 3000) b) (by rw [Nat.mul_succ, ← Nat.add_assoc]; exact Nat.add_le_add_right h2 3000))
      exact ⟨key _ _ _ _ _ _ h1 y1, key2 _ _ _ _ _ _ h2 y2⟩
    have loop : ∀ m i Z1 P1 U1 r1 S1, i + m = smN z → FX S S1 → k_E N own Z1 U1 r1 → Fz own Z P U r Z1 P1 U1 r1 → r1.1 ≤ r.1 + 4 * i → r1.2 ≤ r.2 + 26 * i → y_trR (nI z) (nI j) a (nI j2) a2 0 (smN z) true S = y_trR (nI z) (nI j) a (nI j2) a2 i m true S1 → e_Sm g 114 12 cd114 Ψ 35 [some (.ref own), some (.int (nI z)), some (.int (nI j)), some (.int a), some (.int (nI j2)), some (.int a2), some (.int (nI i))] [] (K_H Z1 P1 U1 (B, r1)) := by
      intro m
      induction m with
      | zero =>
        intro i Z1 P1 U1 r1 S1 hi fx E1 fz h1 h2 er
        have ei : i = smN z := by omega
        have st := sm_tab.2 z hz
        rw [u114_35]
        simp (decide := true) (disch := first | assumption | omega) only [↓u114_0, ↓u114_30, ↓u114_32, ↓u114_63, ↓u114_69, ↓x_nil, ↓x_om, ↓x_iload_1, ↓x_if_lt, ↓x_bipush_8, ↓x_icmp_ge, ↓x_iload_2, ↓x_iload_3, ↓x_invokestatic, mt_12_290, x_ps0, x_ps1, x_l40, x_l41, x_l42, x_l43, x_l44, ↓x_cs3_1, ↓x_if_eq, ↓x_iload_4, ↓x_iload_5, ↓x_if_ne, ↓x_iconst_m1, ↓x_ireturn, rt114, ↓x_iconst_0, ↓x_istore_6, x_cl_i, x_cl_r, x_cl_n, x_cl_q, x_cl_0, x_cl_l, ↓x_iload_6, ↓x_getstatic, ↓x_iaload, ↓x_aload_0r, ↓x_aload_0n, ↓x_aload_0q, ↓x_invokevirtual, mt_12_297, ↓x_cv6, ↓x_iinc_6_1, ↓x_goto, ↓x_iconst_1, Int.reduceAdd, Nat.reduceAdd, true_and, and_true, true_or, or_true, false_or, or_false, reduceCtorEq, false_and, and_false, and_self, or_self, false_implies, true_implies, not_true_eq_false, not_false_eq_true, implies_true, Option.some.injEq, i_add, i_a1, i_m8, i_m5, i_m401, i_40, i_80, i_r40, i_s1, i_am1, i_sub, i_lt, i_le, i_eq, i_m1, il_le_0, il_ge_0, il_lt_0, il_gt_0, il_eq_0, il_le_1, il_ge_1, il_lt_1, il_gt_1, il_eq_1, il_le_2, il_ge_2, il_lt_2, il_gt_2, il_eq_2, il_le_3, il_ge_3, il_lt_3, il_gt_3, il_eq_3, il_le_4, il_ge_4, il_lt_4, il_gt_4, il_eq_4, il_le_5, il_ge_5, il_lt_5, il_gt_5, il_eq_5, il_le_6, il_ge_6, il_lt_6, il_gt_6, il_eq_6, il_le_7, il_ge_7, il_lt_7, il_gt_7, il_eq_7, il_le_8, il_ge_8, il_lt_8, il_gt_8, il_eq_8, il_le_12, il_ge_12, il_lt_12, il_gt_12, il_eq_12, il_le_16, il_ge_16, il_lt_16, il_gt_16, il_eq_16, il_le_20, il_ge_20, il_lt_20, il_gt_20, il_eq_20, il_le_21, il_ge_21, il_lt_21, il_gt_21, il_eq_21, il_le_40, il_ge_40, il_lt_40, il_gt_40, il_eq_40, il_le_100, il_ge_100, il_lt_100, il_gt_100, il_eq_100, il_le_120, il_ge_120, il_lt_120, il_gt_120, il_eq_120, il_le_200, il_ge_200, il_lt_200, il_gt_200, il_eq_200, il_le_400, il_ge_400, il_lt_400, il_gt_400, il_eq_400, il_le_700, il_ge_700, il_lt_700, il_gt_700, il_eq_700, st, kgI5, kgI8, kgI12, kgI16, kwI5, kwI8, kwI12, kwI16, k_as, k_a1, k_r2, i_in, i_cl, ki12, up_s, up_n]
        refine ⟨by rw [sm_tab.1]; exact vp_in_nI (by omega) (by omega), fun _ => ?_, fun c => by omega⟩
        exact fin Z1 P1 U1 r1 true S1 er fx E1 fz (by omega) (by omega)
      | succ m ih =>
        intro i Z1 P1 U1 r1 S1 hi fx E1 fz h1 h2 er
        have st := sm_tab.2 z hz
        have tO1 : Z1.1 own = 13 := E1.2.1
        have hit1 : S1.1 29 = 0 := (fx.1 _ (by decide)).trans hit0
        have b9 : ∀ j', i ≤ j' → j' < i + (m + 1) → j' < 9 ∧ (nI z = 4 → j' < 3) := fun j' _ h => ⟨by omega, fun e => by have := sm3 e; omega⟩
        rw [u114_35]
        simp (decide := true) (disch := first | assumption | omega) only [↓u114_0, ↓u114_30, ↓u114_32, ↓u114_69, ↓x_nil, ↓x_om, ↓x_iload_1, ↓x_if_lt, ↓x_bipush_8, ↓x_icmp_ge, ↓x_iload_2, ↓x_iload_3, ↓x_invokestatic, mt_12_290, x_ps0, x_ps1, x_l40, x_l41, x_l42, x_l43, x_l44, ↓x_cs3_1, ↓x_if_eq, ↓x_iload_4, ↓x_iload_5, ↓x_if_ne, ↓x_iconst_m1, ↓x_ireturn, rt114, ↓x_iconst_0, ↓x_istore_6, x_cl_i, x_cl_r, x_cl_n, x_cl_q, x_cl_0, x_cl_l, ↓x_iload_6, ↓x_getstatic, ↓x_iaload, ↓x_aload_0r, ↓x_aload_0n, ↓x_aload_0q, ↓x_invokevirtual, mt_12_297, ↓x_cv6, ↓x_iinc_6_1, ↓x_goto, ↓x_iconst_1, Int.reduceAdd, Nat.reduceAdd, true_and, and_true, true_or, or_true, false_or, or_false, reduceCtorEq, false_and, and_false, and_self, or_self, false_implies, true_implies, not_true_eq_false, not_false_eq_true, implies_true, Option.some.injEq, i_add, i_a1, i_m8, i_m5, i_m401, i_40, i_80, i_r40, i_s1, i_am1, i_sub, i_lt, i_le, i_eq, i_m1, il_le_0, il_ge_0, il_lt_0, il_gt_0, il_eq_0, il_le_1, il_ge_1, il_lt_1, il_gt_1, il_eq_1, il_le_2, il_ge_2, il_lt_2, il_gt_2, il_eq_2, il_le_3, il_ge_3, il_lt_3, il_gt_3, il_eq_3, il_le_4, il_ge_4, il_lt_4, il_gt_4, il_eq_4, il_le_5, il_ge_5, il_lt_5, il_gt_5, il_eq_5, il_le_6, il_ge_6, il_lt_6, il_gt_6, il_eq_6, il_le_7, il_ge_7, il_lt_7, il_gt_7, il_eq_7, il_le_8, il_ge_8, il_lt_8, il_gt_8, il_eq_8, il_le_12, il_ge_12, il_lt_12, il_gt_12, il_eq_12, il_le_16, il_ge_16, il_lt_16, il_gt_16, il_eq_16, il_le_20, il_ge_20, il_lt_20, il_gt_20, il_eq_20, il_le_21, il_ge_21, il_lt_21, il_gt_21, il_eq_21, il_le_40, il_ge_40, il_lt_40, il_gt_40, il_eq_40, il_le_100, il_ge_100, il_lt_100, il_gt_100, il_eq_100, il_le_120, il_ge_120, il_lt_120, il_gt_120, il_eq_120, il_le_200, il_ge_200, il_lt_200, il_gt_200, il_eq_200, il_le_400, il_ge_400, il_lt_400, il_gt_400, il_eq_400, il_le_700, il_ge_700, il_lt_700, il_gt_700, il_eq_700, st, kgI5, kgI8, kgI12, kgI16, kwI5, kwI8, kwI12, kwI16, k_as, k_a1, k_r2, i_in, i_cl, ki12, up_s, up_n]
        refine ⟨by rw [sm_tab.1]; exact vp_in_nI (by omega) (by omega), fun c => by omega, fun _ => ?_⟩
        refine s_same (S := S1) (m := r1.1) (sl := r1.2) hg E E1 fz hz (by omega) (fun e => by subst e; have := sm3 rfl; omega) hj hj2 hh hh2 har har2 hit1 fx.2.2.2.2 (fun Z2 P2 U2 r2 E2 fz2 ro1 ro2 fx2 => ?_)
        rw [y_trR, Bool.true_and] at er
        simp (decide := true) (disch := first | assumption | omega) only [↓u114_0, ↓u114_30, ↓u114_32, ↓u114_69, ↓x_nil, ↓x_om, ↓x_iload_1, ↓x_if_lt, ↓x_bipush_8, ↓x_icmp_ge, ↓x_iload_2, ↓x_iload_3, ↓x_invokestatic, mt_12_290, x_ps0, x_ps1, x_l40, x_l41, x_l42, x_l43, x_l44, ↓x_cs3_1, ↓x_if_eq, ↓x_iload_4, ↓x_iload_5, ↓x_if_ne, ↓x_iconst_m1, ↓x_ireturn, rt114, ↓x_iconst_0, ↓x_istore_6, x_cl_i, x_cl_r, x_cl_n, x_cl_q, x_cl_0, x_cl_l, ↓x_iload_6, ↓x_getstatic, ↓x_iaload, ↓x_aload_0r, ↓x_aload_0n, ↓x_aload_0q, ↓x_invokevirtual, mt_12_297, ↓x_cv6, ↓x_iinc_6_1, ↓x_goto, ↓x_iconst_1, Int.reduceAdd, Nat.reduceAdd, true_and, and_true, true_or, or_true, false_or, or_false, reduceCtorEq, false_and, and_false, and_self, or_self, false_implies, true_implies, not_true_eq_false, not_false_eq_true, implies_true, Option.some.injEq, i_add, i_a1, i_m8, i_m5, i_m401, i_40, i_80, i_r40, i_s1, i_am1, i_sub, i_lt, i_le, i_eq, i_m1, il_le_0, il_ge_0, il_lt_0, il_gt_0, il_eq_0, il_le_1, il_ge_1, il_lt_1, il_gt_1, il_eq_1, il_le_2, il_ge_2, il_lt_2, il_gt_2, il_eq_2, il_le_3, il_ge_3, il_lt_3, il_gt_3, il_eq_3, il_le_4, il_ge_4, il_lt_4, il_gt_4, il_eq_4, il_le_5, il_ge_5, il_lt_5, il_gt_5, il_eq_5, il_le_6, il_ge_6, il_lt_6, il_gt_6, il_eq_6, il_le_7, il_ge_7, il_lt_7, il_gt_7, il_eq_7, il_le_8, il_ge_8, il_lt_8, il_gt_8, il_eq_8, il_le_12, il_ge_12, il_lt_12, il_gt_12, il_eq_12, il_le_16, il_ge_16, il_lt_16, il_gt_16, il_eq_16, il_le_20, il_ge_20, il_lt_20, il_gt_20, il_eq_20, il_le_21, il_ge_21, il_lt_21, il_gt_21, il_eq_21, il_le_40, il_ge_40, il_lt_40, il_gt_40, il_eq_40, il_le_100, il_ge_100, il_lt_100, il_gt_100, il_eq_100, il_le_120, il_ge_120, il_lt_120, il_gt_120, il_eq_120, il_le_200, il_ge_200, il_lt_200, il_gt_200, il_eq_200, il_le_400, il_ge_400, il_lt_400, il_gt_400, il_eq_400, il_le_700, il_ge_700, il_lt_700, il_gt_700, il_eq_700, st, kgI5, kgI8, kgI12, kgI16, kwI5, kwI8, kwI12, kwI16, k_as, k_a1, k_r2, i_in, i_cl, ki12, up_s, up_n]
        refine c_bool (fun w => ?_) (fun w => ?_)
        · rw [u114_63]
          simp (decide := true) (disch := first | assumption | omega) only [↓u114_0, ↓u114_30, ↓u114_32, ↓u114_69, ↓x_nil, ↓x_om, ↓x_iload_1, ↓x_if_lt, ↓x_bipush_8, ↓x_icmp_ge, ↓x_iload_2, ↓x_iload_3, ↓x_invokestatic, mt_12_290, x_ps0, x_ps1, x_l40, x_l41, x_l42, x_l43, x_l44, ↓x_cs3_1, ↓x_if_eq, ↓x_iload_4, ↓x_iload_5, ↓x_if_ne, ↓x_iconst_m1, ↓x_ireturn, rt114, ↓x_iconst_0, ↓x_istore_6, x_cl_i, x_cl_r, x_cl_n, x_cl_q, x_cl_0, x_cl_l, ↓x_iload_6, ↓x_getstatic, ↓x_iaload, ↓x_aload_0r, ↓x_aload_0n, ↓x_aload_0q, ↓x_invokevirtual, mt_12_297, ↓x_cv6, ↓x_iinc_6_1, ↓x_goto, ↓x_iconst_1, Int.reduceAdd, Nat.reduceAdd, true_and, and_true, true_or, or_true, false_or, or_false, reduceCtorEq, false_and, and_false, and_self, or_self, false_implies, true_implies, not_true_eq_false, not_false_eq_true, implies_true, Option.some.injEq, i_add, i_a1, i_m8, i_m5, i_m401, i_40, i_80, i_r40, i_s1, i_am1, i_sub, i_lt, i_le, i_eq, i_m1, il_le_0, il_ge_0, il_lt_0, il_gt_0, il_eq_0, il_le_1, il_ge_1, il_lt_1, il_gt_1, il_eq_1, il_le_2, il_ge_2, il_lt_2, il_gt_2, il_eq_2, il_le_3, il_ge_3, il_lt_3, il_gt_3, il_eq_3, il_le_4, il_ge_4, il_lt_4, il_gt_4, il_eq_4, il_le_5, il_ge_5, il_lt_5, il_gt_5, il_eq_5, il_le_6, il_ge_6, il_lt_6, il_gt_6, il_eq_6, il_le_7, il_ge_7, il_lt_7, il_gt_7, il_eq_7, il_le_8, il_ge_8, il_lt_8, il_gt_8, il_eq_8, il_le_12, il_ge_12, il_lt_12, il_gt_12, il_eq_12, il_le_16, il_ge_16, il_lt_16, il_gt_16, il_eq_16, il_le_20, il_ge_20, il_lt_20, il_gt_20, il_eq_20, il_le_21, il_ge_21, il_lt_21, il_gt_21, il_eq_21, il_le_40, il_ge_40, il_lt_40, il_gt_40, il_eq_40, il_le_100, il_ge_100, il_lt_100, il_gt_100, il_eq_100, il_le_120, il_ge_120, il_lt_120, il_gt_120, il_eq_120, il_le_200, il_ge_200, il_lt_200, il_gt_200, il_eq_200, il_le_400, il_ge_400, il_lt_400, il_gt_400, il_eq_400, il_le_700, il_ge_700, il_lt_700, il_gt_700, il_eq_700, st, kgI5, kgI8, kgI12, kgI16, kwI5, kwI8, kwI12, kwI16, k_as, k_a1, k_r2, i_in, i_cl, ki12, up_s, up_n]
          rw [w] at er
          exact ih (i + 1) Z2 P2 U2 r2 _ (by omega) (fx.tr fx2) E2 fz2 (by omega) (by omega) er
        · rw [w] at er
          obtain ⟨t1, t2⟩ := trR_ok hj hj2 hh hh2 har har2 m (i + 1) false _ (fun j' h1 h2 => b9 j' (by omega) (by omega)) ((fx2.1 _ (by decide)).trans hit1) fx2.2.2.2.2
          have er2 : y_trR (nI z) (nI j) a (nI j2) a2 0 (smN z) true S = (false, (y_trR (nI z) (nI j) a (nI j2) a2 (i + 1) m false (y_tr1 (nI z) (nI j) a (nI j2) a2 i S1).2).2) := by
            rw [er]
            exact Prod.ext (t2 rfl) rfl
          exact fin Z2 P2 U2 r2 false _ er2 ((fx.tr fx2).tr t1) E2 fz2 (by omega) (by omega)
    exact loop (smN z) 0 Z P U r S (by omega) (FX.rf hI.1.2.2.2.2.2.2.2.2.2) E Fz.rf (by omega) (by omega) rfl
  refine e_call (cd := cd114) hg ok114 (by rw [mL114]; exact Nat.le_of_ble_eq_true rfl) ?_
  rw [mL114]
  simp only [x_ini, x_inr, x_inn, x_inq, x_inl, x_in0, x_rp0, x_rps, Nat.reduceSub]
  simp (decide := true) (disch := first | assumption | omega) only [↓u114_0, ↓u114_30, ↓u114_32, ↓u114_63, ↓u114_69, ↓x_nil, ↓x_om, ↓x_iload_1, ↓x_if_lt, ↓x_bipush_8, ↓x_icmp_ge, ↓x_iload_2, ↓x_iload_3, ↓x_invokestatic, mt_12_290, x_ps0, x_ps1, x_l40, x_l41, x_l42, x_l43, x_l44, ↓x_cs3_1, ↓x_if_eq, ↓x_iload_4, ↓x_iload_5, ↓x_if_ne, ↓x_iconst_m1, ↓x_ireturn, rt114, ↓x_iconst_0, ↓x_istore_6, x_cl_i, x_cl_r, x_cl_n, x_cl_q, x_cl_0, x_cl_l, ↓x_iload_6, ↓x_getstatic, ↓x_iaload, ↓x_aload_0r, ↓x_aload_0n, ↓x_aload_0q, ↓x_invokevirtual, mt_12_297, ↓x_cv6, ↓x_iinc_6_1, ↓x_goto, ↓x_iconst_1, Int.reduceAdd, Nat.reduceAdd, true_and, and_true, true_or, or_true, false_or, or_false, reduceCtorEq, false_and, and_false, and_self, or_self, false_implies, true_implies, not_true_eq_false, not_false_eq_true, implies_true, Option.some.injEq, kgI5, kgI8, kgI12, kgI16, kwI5, kwI8, kwI12, kwI16, k_as, k_a1, k_r2, i_in, i_cl, ki12, up_s, up_n]
  refine ⟨fun c1 => bad (fun y => ?_), fun c1 => ⟨fun c8 => bad (fun y => ?_), fun c8 => ?_⟩⟩
  · rw [in_lo c1] at y; exact absurd y.1 (by decide)
  · rw [in_f (fun w => absurd (Int32.lt_of_lt_of_le (by decide : (7 : Int32) < 8) c8) (Int32.not_lt.mpr w.2))] at y; exact absurd y.1 (by decide)
  obtain ⟨z, ez, hz⟩ := n_of2 (Int32.not_lt.mp c1) (show s < nI 8 from Int32.not_le.mp c8) (by omega)
  subst ez
  have i7 : y_isIn (nI z) 0 7 = true := in_tr (nI_pos' (by omega)) (by rw [show (7 : Int32) = nI 7 from rfl]; exact nI_le (by omega) (by omega))
  refine h_canTry hg hz ?_
  rw [canT_ok (n := n) n40]
  simp (decide := true) (disch := first | assumption | omega) only [↓u114_0, ↓u114_30, ↓u114_32, ↓u114_63, ↓u114_69, ↓x_nil, ↓x_om, ↓x_iload_1, ↓x_if_lt, ↓x_bipush_8, ↓x_icmp_ge, ↓x_iload_2, ↓x_iload_3, ↓x_invokestatic, mt_12_290, x_ps0, x_ps1, x_l40, x_l41, x_l42, x_l43, x_l44, ↓x_cs3_1, ↓x_if_eq, ↓x_iload_4, ↓x_iload_5, ↓x_if_ne, ↓x_iconst_m1, ↓x_ireturn, rt114, ↓x_iconst_0, ↓x_istore_6, x_cl_i, x_cl_r, x_cl_n, x_cl_q, x_cl_0, x_cl_l, ↓x_iload_6, ↓x_getstatic, ↓x_iaload, ↓x_aload_0r, ↓x_aload_0n, ↓x_aload_0q, ↓x_invokevirtual, mt_12_297, ↓x_cv6, ↓x_iinc_6_1, ↓x_goto, ↓x_iconst_1, Int.reduceAdd, Nat.reduceAdd, true_and, and_true, true_or, or_true, false_or, or_false, reduceCtorEq, false_and, and_false, and_self, or_self, false_implies, true_implies, not_true_eq_false, not_false_eq_true, implies_true, Option.some.injEq, kgI5, kgI8, kgI12, kgI16, kwI5, kwI8, kwI12, kwI16, k_as, k_a1, k_r2, i_in, i_cl, ki12, up_s, up_n]
  refine c_bool (fun w1 => ?_) (fun w1 => bad (fun y => by rw [y.2.1] at w1; cases w1))
  refine h_canTry hg hz ?_
  rw [canT_ok (n := n) n40]
  simp (decide := true) (disch := first | assumption | omega) only [↓u114_0, ↓u114_30, ↓u114_32, ↓u114_63, ↓u114_69, ↓x_nil, ↓x_om, ↓x_iload_1, ↓x_if_lt, ↓x_bipush_8, ↓x_icmp_ge, ↓x_iload_2, ↓x_iload_3, ↓x_invokestatic, mt_12_290, x_ps0, x_ps1, x_l40, x_l41, x_l42, x_l43, x_l44, ↓x_cs3_1, ↓x_if_eq, ↓x_iload_4, ↓x_iload_5, ↓x_if_ne, ↓x_iconst_m1, ↓x_ireturn, rt114, ↓x_iconst_0, ↓x_istore_6, x_cl_i, x_cl_r, x_cl_n, x_cl_q, x_cl_0, x_cl_l, ↓x_iload_6, ↓x_getstatic, ↓x_iaload, ↓x_aload_0r, ↓x_aload_0n, ↓x_aload_0q, ↓x_invokevirtual, mt_12_297, ↓x_cv6, ↓x_iinc_6_1, ↓x_goto, ↓x_iconst_1, Int.reduceAdd, Nat.reduceAdd, true_and, and_true, true_or, or_true, false_or, or_false, reduceCtorEq, false_and, and_false, and_self, or_self, false_implies, true_implies, not_true_eq_false, not_false_eq_true, implies_true, Option.some.injEq, kgI5, kgI8, kgI12, kgI16, kwI5, kwI8, kwI12, kwI16, k_as, k_a1, k_r2, i_in, i_cl, ki12, up_s, up_n]
  refine c_bool (fun w2 => ?_) (fun w2 => bad (fun y => by rw [y.2.2] at w2; cases w2))
  have b1 : y_badT (nI n) (nI z) k a = false := by simpa using w1
  have b2 : y_badT (nI n) (nI z) k2 a2 = false := by simpa using w2
  obtain ⟨j, j1, j2, j3, j4⟩ := can_ar b1
  obtain ⟨i, i1, i2, i3, i4⟩ := can_ar b2
  refine main z j i hz rfl j1 j2 i1 i2 j3 i3 j4 i4 ?_
  unfold y_tried
  dsimp only
  rw [eob, if_pos ⟨i7, b1, b2⟩, (smN_ok z hz).1, i_cl (by have := (smN_ok z hz).2.1; omega)]
end VP
