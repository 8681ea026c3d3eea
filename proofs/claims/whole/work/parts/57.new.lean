/-! new objects of the class -/
section KK
variable {g : e_G} {Ψ : e_Q} {Z : k_Z} {P : k_P} {U : k_U} {B : Nat → Option e_Cl} {r : Nat × Nat}
theorem k_cell_eq {Z' : k_Z} {P' : k_P} {U' : k_U} {b : Nat} {d : Option e_Cl} (h1 : Z'.1 b = Z.1 b) (h2 : Z'.2.1 b = Z.2.1 b) (h3 : Z'.2.2 b = Z.2.2 b) (h4 : ∀ f, P'.1 f b = P.1 f b) (h5 : P'.2 b = P.2 b) (h6 : U'.1 b = U.1 b) (h7 : U'.2.1 b = U.2.1 b) (h8 : U'.2.2 b = U.2.2 b) : k_cell Z' P' U' d b = k_cell Z P U d b := by
  have e : ∀ c, k_V c b Z' P' U' = k_V c b Z P U := fun c => by
    funext k
    simp only [k_V, h3, h4, h6]
  simp only [k_cell, h1, h2, h5, h7, h8, e]
def k_off (n : Nat) (Z Z' : k_Z) (P P' : k_P) (U U' : k_U) : Prop := ∀ b, b ≠ n → Z'.1 b = Z.1 b ∧ Z'.2.1 b = Z.2.1 b ∧ Z'.2.2 b = Z.2.2 b ∧ (∀ f, P'.1 f b = P.1 f b) ∧ P'.2 b = P.2 b ∧ U'.1 b = U.1 b ∧ U'.2.1 b = U.2.1 b ∧ U'.2.2 b = U.2.2 b
theorem k_off.cell {n : Nat} {Z' : k_Z} {P' : k_P} {U' : k_U} (o : k_off n Z Z' P P' U U') : ∀ b d, b ≠ n → k_cell Z' P' U' d b = k_cell Z P U d b := fun b d hb => by
  obtain ⟨a1, a2, a3, a4, a5, a6, a7, a8⟩ := o b hb
  exact k_cell_eq a1 a2 a3 a4 a5 a6 a7 a8
theorem k_absO {n c : Nat} {V : Nat → Value} {Z' : k_Z} {P' : k_P} {U' : k_U} (t : Z.1 n = 0) (tz : Z'.1 n = c + 1) (h1 : 1 ≤ c) (h2 : c ≤ 12) (hV : V = k_V c n Z' P' U') (o : k_off n Z Z' P P' U U') : K_H Z P U (va_up B n (some (e_O c V)), r) = K_H Z' P' U' (B, r) :=
  k_abs (fun d => by rw [k_cO tz h1 h2, hV]) o.cell t
theorem k_absI {n m : Nat} {f : Nat → Int32} {Z' : k_Z} {P' : k_P} {U' : k_U} (t : Z.1 n = 0) (tz : Z'.1 n = 100 + m) (hf : P'.2 n = f) (o : k_off n Z Z' P P' U U') : K_H Z P U (va_up B n (some (e_I 0 m f)), r) = K_H Z' P' U' (B, r) :=
  k_abs (fun d => by rw [show k_cell Z' P' U' d n = some (e_I 0 m (P'.2 n)) from k_atI (h := (fun _ => d, (0, 0))) tz, hf]) o.cell t
theorem k_absL {n : Nat} {Z' : k_Z} {P' : k_P} {U' : k_U} (t : Z.1 n = 0) (tz : k_tL Z' n) (hl : U'.2.1 n = []) (hc : Z'.2.1 n = 0) (o : k_off n Z Z' P P' U U') : K_H Z P U (va_up B n (some (e_L [] 0)), r) = K_H Z' P' U' (B, r) :=
  k_abs (fun d => by rw [k_cL tz, hl, hc]) o.cell t
theorem k_absR2 {n : Nat} {f : Nat → Option Nat} {Z' : k_Z} {P' : k_P} {U' : k_U} (t : Z.1 n = 0) (tz : Z'.1 n = 20) (hf : U'.2.2 n = f) (o : k_off n Z Z' P P' U U') : K_H Z P U (va_up B n (some (e_R 2 40 f)), r) = K_H Z' P' U' (B, r) :=
  k_abs (fun d => by rw [show k_cell Z' P' U' d n = some (e_R 2 40 (U'.2.2 n)) from k_atR2 (h := (fun _ => d, (0, 0))) tz, hf]) o.cell t
theorem k_absR3 {n : Nat} {f : Nat → Option Nat} {Z' : k_Z} {P' : k_P} {U' : k_U} (t : Z.1 n = 0) (tz : Z'.1 n = 21) (hf : U'.2.2 n = f) (o : k_off n Z Z' P P' U U') : K_H Z P U (va_up B n (some (e_R 3 40 f)), r) = K_H Z' P' U' (B, r) :=
  k_abs (fun d => by rw [show k_cell Z' P' U' d n = some (e_R 3 40 (U'.2.2 n)) from k_atR3 (h := (fun _ => d, (0, 0))) tz, hf]) o.cell t
theorem k_zts {n t : Nat} : (k_zt Z n t).1 n = t := by simp [k_zt, va_up]
theorem k_ztn {n t b : Nat} (h : b ≠ n) : (k_zt Z n t).1 b = Z.1 b := by simp [k_zt, va_up, h]
theorem k_alI {m : Nat} {f : Nat → Int32} {k : Nat} (t : Z.1 r.1 = 0) : e_al (K_H Z P U (B, r)) (e_I 0 m f) k = K_H (k_zt Z r.1 (100 + m)) (k_wa P r.1 f) U (B, (r.1 + 1, r.2 + k)) := by
  rw [k_al t]
  refine k_absI t k_zts k_as (fun b hb => ⟨k_ztn hb, rfl, rfl, fun f => rfl, k_an hb, rfl, rfl, rfl⟩)
theorem k_alO {c k : Nat} {V : Nat → Value} (t : Z.1 r.1 = 0) : e_al (K_H Z P U (B, r)) (e_O c V) k = K_H Z P U (va_up B r.1 (some (e_O c V)), (r.1 + 1, r.2 + k)) := k_al t
theorem k_Vext {c n : Nat} {V : Nat → Value} (h : ∀ k, k < (k_K.getD c []).length → V k = k_V c n Z P U k) (h2 : ∀ k, (k_K.getD c []).length ≤ k → V k = e_dv c k) : V = k_V c n Z P U := by
  funext k
  by_cases hk : k < (k_K.getD c []).length
  · exact h k hk
  · rw [h2 k (by omega)]
    unfold k_V
    rw [List.getElem?_eq_none (by omega)]
theorem k_up2 {f a b b' : Nat} {v : Int32} (hb : b ≠ a) (h : P.1 f b = P.1 f b) : (k_wr P f a v).1 b' b = P.1 b' b := by
  by_cases e : b' = f
  · subst e; exact k_ra hb
  · exact k_rn e
/-- ints of one address are other ones -/
def k_set1 (P : k_P) (n : Nat) (F : Nat → Int32) : k_P := (fun f a => if a = n then F f else P.1 f a, P.2)
theorem k_s1s {n f : Nat} {F : Nat → Int32} : (k_set1 P n F).1 f n = F f := by simp [k_set1]
theorem k_s1n {n f b : Nat} {F : Nat → Int32} (h : b ≠ n) : (k_set1 P n F).1 f b = P.1 f b := by simp [k_set1, h]
theorem k_s12 {n : Nat} {F : Nat → Int32} : (k_set1 P n F).2 = P.2 := id rfl
-- Thing
def k_nT (P : k_P) (n : Nat) : k_P := k_set1 (k_wa P (n + 1) (fun _ => 0)) n (fun _ => 0)
theorem tc5 : Int32.toNatClampNeg 5 = 5 := by decide
theorem tc8 : Int32.toNatClampNeg 8 = 8 := by decide
theorem tc12 : Int32.toNatClampNeg 12 = 12 := by decide
theorem tc16 : Int32.toNatClampNeg 16 = 16 := by decide
theorem tc40 : Int32.toNatClampNeg 40 = 40 := by decide
theorem h_newThing (hg : e_GK g) {n s : Nat} (tn : Z.1 n = 0) (tr : Z.1 (n + 1) = 0) (q : Ψ none (K_H (k_zt (k_zt Z (n + 1) 108) n 12) (k_nT P n) U (B, (n + 2, s + 8)))) : e_Sc g 65 [.ref n] (K_H Z P U (va_up B n (some (e_O 11 (e_dv 11))), (n + 1, s))) Ψ := by
  refine e_call (cd := cd65) hg ok65 (by rw [mL65]; exact Nat.le_of_ble_eq_true rfl) ?_
  rw [mL65]
  simp only [x_ini, x_inr, x_inn, x_inq, x_inl, x_in0, x_rp0, x_rps, Nat.reduceSub]
  simp (decide := true) (disch := first | assumption | omega) only [↓u65_0, ↓x_nil, ↓x_om, ↓x_aload_0r, ↓x_aload_0n, ↓x_aload_0q, ↓x_invokespecial, mt_11_3, x_ps0, x_ps1, x_l40, x_l41, x_l42, x_l43, x_l44, ↓x_co, ↓x_bipush_8, ↓x_newarray_int, ↓x_putfield, ft_11_9, x_fit0, x_fit1, x_fit2r, x_fit2n, x_fit2q, ↓x_return, Int.reduceAdd, Nat.reduceAdd, true_and, and_true, true_or, or_true, false_or, or_false, reduceCtorEq, false_and, and_false, and_self, or_self, false_implies, true_implies, not_true_eq_false, not_false_eq_true, implies_true, Option.some.injEq, k_rg, k_rw, k_c2, k_alI, tc8, kg11, kv11_4, k_rs, k_rn, k_r2, k_c2, up_s, up_n]
  have t2 : (k_zt Z (n + 1) 108).1 n = 0 := by rw [k_ztn (by omega)]; exact tn
  rw [k_rg t2, k_rw t2, k_absO (c := 11) t2 k_zts (by decide) (by decide) (Z' := k_zt (k_zt Z (n + 1) 108) n 12) (P' := k_nT P n) (U' := U)]
  · exact q
  · refine k_Vext (fun k hk => ?_) (fun k hk => ?_)
    · have hk : k = 0 ∨ k = 1 ∨ k = 2 ∨ k = 3 ∨ k = 4 := by simp [k_K] at hk; omega
      rcases hk with rfl | rfl | rfl | rfl | rfl
      · rw [up_n (by decide), dv11_0, kv11_0, k_nT, k_s1s]
      · rw [up_n (by decide), dv11_1, kv11_1, k_nT, k_s1s]
      · rw [up_n (by decide), dv11_2, kv11_2, k_nT, k_s1s]
      · rw [up_n (by decide), dv11_3, kv11_3, k_nT, k_s1s]
      · rw [up_s, kv11_4]
    · rw [up_n (by simp [k_K] at hk; omega)]
  · exact fun b hb => ⟨k_ztn hb, rfl, rfl, fun f => k_s1n hb, rfl, rfl, rfl, rfl⟩
-- Row
def k_rwF (w d p k a b ans u : Int32) (f : Nat) : Int32 := match f with
  | 140 => w | 141 => d | 142 => p | 143 => k | 144 => a | 145 => b | 146 => ans | 147 => u | _ => 0
theorem h_newRow (hg : e_GK g) {n s : Nat} {w d p k a b ans : Int32} (tn : Z.1 n = 0) (q : Ψ none (K_H (k_zt Z n 8) (k_set1 P n (k_rwF w d p k a b ans (-1))) U (B, (n + 1, s)))) : e_Sc g 33 [.ref n, .int w, .int d, .int p, .int k, .int a, .int b, .int ans] (K_H Z P U (va_up B n (some (e_O 7 (e_dv 7))), (n + 1, s))) Ψ := by
  refine e_call (cd := cd33) hg ok33 (by rw [mL33]; exact Nat.le_of_ble_eq_true rfl) ?_
  rw [mL33]
  simp only [x_ini, x_inr, x_inn, x_inq, x_inl, x_in0, x_rp0, x_rps, Nat.reduceSub]
  simp (decide := true) (disch := first | assumption | omega) only [↓u33_0, ↓x_nil, ↓x_om, ↓x_aload_0r, ↓x_aload_0n, ↓x_aload_0q, ↓x_invokespecial, mt_7_3, x_ps0, x_ps1, x_l40, x_l41, x_l42, x_l43, x_l44, ↓x_co, ↓x_iconst_m1, ↓x_putfield, ft_7_9, x_fit0, x_fit1, x_fit2r, x_fit2n, x_fit2q, ↓x_iload_1, ft_7_15, ↓x_iload_2, ft_7_18, ↓x_iload_3, ft_7_21, ↓x_iload_4, ft_7_24, ↓x_iload_5, ft_7_27, ↓x_iload_6, ft_7_30, ↓x_iload_7, ft_7_33, ↓x_return, Int.reduceAdd, Nat.reduceAdd, true_and, and_true, true_or, or_true, false_or, or_false, reduceCtorEq, false_and, and_false, and_self, or_self, false_implies, true_implies, not_true_eq_false, not_false_eq_true, implies_true, Option.some.injEq, k_rg, k_rw, k_c2, kg7, kv7_7, kw7_7, k_rs, k_rn, k_r2, k_c2, kv7_0, kw7_0, kv7_1, kw7_1, kv7_2, kw7_2, kv7_3, kw7_3, kv7_4, kw7_4, kv7_5, kw7_5, kv7_6, kw7_6, up_s, up_n]
  rw [k_absO (c := 7) tn k_zts (by decide) (by decide) (Z' := k_zt Z n 8) (P' := k_set1 P n (k_rwF w d p k a b ans (-1))) (U' := U)]
  · exact q
  · refine k_Vext (fun k hk => ?_) (fun k hk => ?_)
    · have hk : k = 0 ∨ k = 1 ∨ k = 2 ∨ k = 3 ∨ k = 4 ∨ k = 5 ∨ k = 6 ∨ k = 7 ∨ k = 8 ∨ k = 9 := by simp [k_K] at hk; omega
      rcases hk with rfl | rfl | rfl | rfl | rfl | rfl | rfl | rfl | rfl | rfl
      · simp only [va_up, kv7_0, k_s1s, k_rwF]; rfl
      · simp only [va_up, kv7_1, k_s1s, k_rwF]; rfl
      · simp only [va_up, kv7_2, k_s1s, k_rwF]; rfl
      · simp only [va_up, kv7_3, k_s1s, k_rwF]; rfl
      · simp only [va_up, kv7_4, k_s1s, k_rwF]; rfl
      · simp only [va_up, kv7_5, k_s1s, k_rwF]; rfl
      · simp only [va_up, kv7_6, k_s1s, k_rwF]; rfl
      · simp only [va_up, kv7_7, k_s1s, k_rwF]; rfl
      · rw [kv7_8, k_s1s, up_n (by decide), up_n (by decide), up_n (by decide), up_n (by decide), up_n (by decide), up_n (by decide), up_n (by decide), up_n (by decide), dv7_8]; rfl
      · rw [kv7_9, k_s1s, up_n (by decide), up_n (by decide), up_n (by decide), up_n (by decide), up_n (by decide), up_n (by decide), up_n (by decide), up_n (by decide), dv7_9]; rfl
    · have hk : 10 ≤ k := by simp [k_K] at hk; omega
      rw [up_n (by omega), up_n (by omega), up_n (by omega), up_n (by omega), up_n (by omega), up_n (by omega), up_n (by omega), up_n (by omega)]
  · exact fun b hb => ⟨k_ztn hb, rfl, rfl, fun f => k_s1n hb, rfl, rfl, rfl, rfl⟩
-- Lock
def k_lkF (p w k a d l : Int32) (f : Nat) : Int32 := match f with
  | 61 => p | 62 => w | 63 => k | 64 => a | 65 => d | 66 => l | _ => 0
def k_zl (Z : k_Z) (n d : Nat) : k_Z := k_zd (k_zt Z n 4) n d
theorem h_newLock (hg : e_GK g) {n s d : Nat} {p w k a : Int32} (tn : Z.1 n = 0) (td : Z.1 d = 3) (q : Ψ none (K_H (k_zl Z n d) (k_set1 P n (k_lkF p w k a (P.1 47 d) (P.1 45 d))) U (B, (n + 1, s)))) : e_Sc g 11 [.ref n, .ref d, .int p, .int w, .int k, .int a] (K_H Z P U (va_up B n (some (e_O 3 (e_dv 3))), (n + 1, s))) Ψ := by
  refine e_call (cd := cd11) hg ok11 (by rw [mL11]; exact Nat.le_of_ble_eq_true rfl) ?_
  rw [mL11]
  simp only [x_ini, x_inr, x_inn, x_inq, x_inl, x_in0, x_rp0, x_rps, Nat.reduceSub]
  simp (decide := true) (disch := first | assumption | omega) only [↓u11_0, ↓x_nil, ↓x_om, ↓x_aload_0r, ↓x_aload_0n, ↓x_aload_0q, ↓x_invokespecial, mt_3_3, x_ps0, x_ps1, x_l40, x_l41, x_l42, x_l43, x_l44, ↓x_co, ↓x_aload_1r, ↓x_aload_1n, ↓x_aload_1q, ↓x_putfield, ft_3_9, x_fit0, x_fit1, x_fit2r, x_fit2n, x_fit2q, ↓x_iload_2, ft_3_15, ↓x_iload_3, ft_3_19, ↓x_iload_4, ft_3_22, ↓x_iload_5, ft_3_25, ↓x_getfield, ft_3_28, ft_3_33, ft_3_34, ft_3_37, ↓x_return, Int.reduceAdd, Nat.reduceAdd, true_and, and_true, true_or, or_true, false_or, or_false, reduceCtorEq, false_and, and_false, and_self, or_self, false_implies, true_implies, not_true_eq_false, not_false_eq_true, implies_true, Option.some.injEq, k_rg, k_rw, k_c2, kg3, kv3_0, k_rs, k_rn, k_r2, k_c2, kv3_1, kw3_1, kv3_2, kw3_2, kv3_3, kw3_3, kv3_4, kw3_4, kg2, kv2_7, kv3_5, kw3_5, kv2_5, kv3_6, kw3_6, up_s, up_n]
  rw [k_absO (c := 3) tn (show (k_zl Z n d).1 n = 4 from k_zts) (by decide) (by decide) (Z' := k_zl Z n d) (P' := k_set1 P n (k_lkF p w k a (P.1 47 d) (P.1 45 d))) (U' := U)]
  · exact q
  · refine k_Vext (fun k hk => ?_) (fun k hk => ?_)
    · have hk : k = 0 ∨ k = 1 ∨ k = 2 ∨ k = 3 ∨ k = 4 ∨ k = 5 ∨ k = 6 ∨ k = 7 := by simp [k_K] at hk; omega
      rcases hk with rfl | rfl | rfl | rfl | rfl | rfl | rfl | rfl
      · simp only [va_up, kv3_0, k_zl, k_zd, if_true]; rfl
      · simp only [va_up, kv3_1, k_s1s, k_lkF]; rfl
      · simp only [va_up, kv3_2, k_s1s, k_lkF]; rfl
      · simp only [va_up, kv3_3, k_s1s, k_lkF]; rfl
      · simp only [va_up, kv3_4, k_s1s, k_lkF]; rfl
      · simp only [va_up, kv3_5, k_s1s, k_lkF]; rfl
      · simp only [va_up, kv3_6, k_s1s, k_lkF]; rfl
      · rw [kv3_7, k_s1s, up_n (by decide), up_n (by decide), up_n (by decide), up_n (by decide), up_n (by decide), up_n (by decide), up_n (by decide), dv3_7]; rfl
    · have hk : 8 ≤ k := by simp [k_K] at hk; omega
      rw [up_n (by omega), up_n (by omega), up_n (by omega), up_n (by omega), up_n (by omega), up_n (by omega), up_n (by omega)]
  · exact fun b hb => ⟨k_ztn hb, rfl, by simp [k_zl, k_zd, va_up, hb, k_zt], fun f => k_s1n hb, rfl, rfl, rfl, rfl⟩
end KK
