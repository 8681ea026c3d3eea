/-! walks: growing, add, add at a place -/
section JE
variable {g : e_G} {Ψ : e_Q} {h : e_Hp} {a b cap : Nat} {V : Nat → Value} {f : Nat → Option Nat}
/-- what lies in the array are objects -/
def j_el (h : e_Hp) (f : Nat → Option Nat) (n : Nat) : Prop := ∀ j y, j < n → f j = some y → ∃ (cy : Nat) (Vy : Nat → Value), 1 ≤ cy ∧ h.1 y = some (e_O cy Vy)
theorem v_nlen (h1 : 10 ≤ cap) (h2 : cap ≤ 20000) (q : Ψ (some (.int (nI (cap + cap / 2)))) h) : j_Sc g jm_nlen [.int (nI cap), .int (nI 1), .int (nI (cap / 2))] h Ψ := by
  refine j_run jo_nlen (show 3 ≤ 4 from by decide) ?_
  refine r_iload (i := 0) (by decide +kernel) rfl ?_
  refine r_iload (i := 1) (by decide +kernel) rfl ?_
  refine r_iload (i := 2) (by decide +kernel) rfl ?_
  refine r_max (x := 194) rfl jl_max (by decide +kernel) (by decide) (by decide) (show 1 ≤ 8 from by decide) ?_
  rw [if_pos (nI_lt (by omega) (by omega))]
  refine r_iadd (by decide +kernel) ?_
  rw [nI_add]
  refine r_istore (i := 3) (by decide +kernel) (show 3 < 4 from by decide) ?_
  refine r_iconst (i := 0) (x := 0) (by decide +kernel) rfl ?_
  refine r_iload (i := 3) (by decide +kernel) rfl ?_
  refine r_ge (off := 11) 21 (by decide +kernel) (by decide) (fun c => absurd c (nI_nle (by omega) (by omega))) (fun _ => ?_)
  refine r_iload (i := 3) (by decide +kernel) rfl ?_
  refine r_ldc (x := 200) rfl jk_len (by decide +kernel) ?_
  refine r_gt (off := 5) 21 (by decide +kernel) (by decide) (fun c => absurd c (show ¬ nI 2147483639 < nI (cap + cap / 2) from nI_nlt (by omega) (by decide))) (fun _ => ?_)
  refine r_iload (i := 3) (by decide +kernel) rfl ?_
  exact r_ireturn (by decide +kernel) (Or.inl rfl) q
theorem v_cpy3 {m mi : Nat} (hg : e_GK g) (hC0 : e_GC g) (hlt : j_lt h) (hmi : va_Mi "[Ljava/lang/Object;" mi g.2.1) (hb : h.1 b = some (e_R 4 cap f)) (hel : j_el h f cap) (h1 : cap ≤ m) (h2 : m ≤ 60000)
    (q : ∀ h3, h3.2 = (h.2.1 + 1, h.2.2 + m) → (∃ f3, h3.1 h.2.1 = some (e_R 4 m f3) ∧ (∀ j, j < cap → f3 j = f j) ∧ ∀ j, cap ≤ j → f3 j = none) → (∀ c, c ≠ h.2.1 → h3.1 c = h.1 c) → Ψ (some (.ref h.2.1)) h3) : j_Sc g jm_cpy3 [.ref b, .int (nI m), .ref mi] h Ψ := by
  have hbl : b ≠ h.2.1 := Nat.ne_of_lt (hlt _ _ hb)
  refine j_run jo_cpy3 (show 3 ≤ 4 from by decide) ?_
  refine r_aload (i := 2) (by decide +kernel) rfl ?_
  refine r_ldcM (x := 110) hmi rfl jd_arr (by decide +kernel) ?_
  refine r_ane (off := 10) 13 (by decide +kernel) (by decide) ?_
  refine r_iload (i := 1) (by decide +kernel) rfl ?_
  refine r_anew (x := 2) hg rfl jd_obj (by decide +kernel) (nI_pos (by omega)) (by rw [nI_clamp (by omega)]; omega) ?_
  rw [nI_clamp (by omega)]
  have hat : (e_al h (e_R 4 m (fun _ => none)) m).1 h.2.1 = some (e_R 4 m (fun _ => none)) := q_as
  have hot : ∀ c, c ≠ h.2.1 → (e_al h (e_R 4 m (fun _ => none)) m).1 c = h.1 c := fun c hc => q_an hc
  have hsz : (e_al h (e_R 4 m (fun _ => none)) m).2 = (h.2.1 + 1, h.2.2 + m) := rfl
  generalize e_al h (e_R 4 m (fun _ => none)) m = H1 at hat hot hsz ⊢
  refine r_goto (off := 14) 24 (by decide +kernel) (by decide) ?_
  refine r_astore (i := 3) (by decide +kernel) (show 3 < 4 from by decide) ?_
  refine r_aload (i := 0) (by decide +kernel) rfl ?_
  refine r_iconst (i := 0) (x := 0) (by decide +kernel) rfl ?_
  refine r_aload (i := 3) (by decide +kernel) rfl ?_
  refine r_iconst (i := 0) (x := 0) (by decide +kernel) rfl ?_
  refine r_aload (i := 0) (by decide +kernel) rfl ?_
  refine r_alen hg (by decide +kernel) (by rw [hot b hbl]; exact hb) ?_
  refine r_iload (i := 1) (by decide +kernel) rfl ?_
  refine r_min (x := 304) rfl jl_min (by decide +kernel) (by decide) (by decide) (show 4 ≤ 8 from by decide) ?_
  rw [if_neg (nI_nlt h1 (by omega))]
  refine r_copy (x := 150) hg hC0 rfl jl_ac2 (by decide +kernel) (by decide) (by decide) (show 0 ≤ 8 from by decide) (by rw [hot b hbl]; exact hb) hat (nI_pos (by omega)) (by decide) (by decide) (by rw [nI_clamp (by omega), show (0 : Int32).toNatClampNeg = 0 from by decide]; omega) (by rw [nI_clamp (by omega), show (0 : Int32).toNatClampNeg = 0 from by decide]; omega) (fun k hk y hy => ?_) ?_
  · rw [nI_clamp (by omega)] at hk
    rw [show (0 : Int32).toNatClampNeg = 0 from by decide, Nat.zero_add] at hy
    obtain ⟨cy, Vy, y1, y2⟩ := hel k y hk hy
    exact ⟨cy, Vy, y1, by rw [hot y (Nat.ne_of_lt (hlt _ _ y2))]; exact y2⟩
  · rw [nI_clamp (by omega), show (0 : Int32).toNatClampNeg = 0 from by decide]
    refine r_aload (i := 3) (by decide +kernel) rfl ?_
    refine r_areturn (by decide +kernel) rfl (Or.inr ⟨_, rfl⟩) (q _ hsz ⟨_, q_s, fun j hj => ?_, fun j hj => ?_⟩ (fun c hc => by rw [q_n hc]; exact hot c hc))
    · rw [pk_cpy_in (Nat.zero_le _) (by omega)]; congr 1; omega
    · exact pk_cpy_out (Or.inr (by omega))
theorem v_cpy2 {m : Nat} (hg : e_GK g) (hC0 : e_GC g) (hlt : j_lt h) (hb : h.1 b = some (e_R 4 cap f)) (hel : j_el h f cap) (h1 : cap ≤ m) (h2 : m ≤ 60000)
    (q : ∀ h3, h3.2 = (h.2.1 + 1, h.2.2 + m) → (∃ f3, h3.1 h.2.1 = some (e_R 4 m f3) ∧ (∀ j, j < cap → f3 j = f j) ∧ ∀ j, cap ≤ j → f3 j = none) → (∀ c, c ≠ h.2.1 → h3.1 c = h.1 c) → Ψ (some (.ref h.2.1)) h3) : j_Sc g jm_cpy2 [.ref b, .int (nI m)] h Ψ := by
  obtain ⟨mi, hmi⟩ := hg.2.2.2.2.2.2.2.2.2.2.2.2.1
  refine j_run jo_cpy2 (show 2 ≤ 2 from by decide) ?_
  refine r_aload (i := 0) (by decide +kernel) rfl ?_
  refine r_iload (i := 1) (by decide +kernel) rfl ?_
  refine r_aload (i := 0) (by decide +kernel) rfl ?_
  refine r_getC (x := 86) hg hmi rfl jl_getC jg_s jg_i jg_n (by decide +kernel) (by decide) (by decide) (show 2 ≤ 8 from by decide) hb ?_
  refine r_stat (x := 300) (As := [.ref b, .int (nI m), .ref mi]) (st := []) jm_cpy3 jo_cpy3 rfl jl_cpy3 jt_cpy3 (show _ = some 3 from by decide +kernel) ⟨by decide, by decide⟩ (by decide +kernel) (show 0 ≤ 8 from by decide) (v_cpy3 hg hC0 hlt hmi hb hel h1 h2 (fun h3 k1 k2 k3 => ?_))
  exact r_areturn (by decide +kernel) rfl (Or.inr ⟨_, rfl⟩) (q h3 k1 k2 k3)
def j_cp (cap : Nat) : Nat := if cap = 0 then 10 else cap + cap / 2
/-- what stands behind growing -/
def j_grP (h : e_Hp) (a cap : Nat) (V : Nat → Value) (f : Nat → Option Nat) (h3 : e_Hp) : Prop :=
  h3.2 = (h.2.1 + 1, h.2.2 + j_cp cap) ∧ (∃ V3 : Nat → Value, h3.1 a = some (e_O 0 V3) ∧ V3 0 = V 0 ∧ V3 1 = .ref h.2.1 ∧ V3 2 = V 2) ∧
  (∃ f3, h3.1 h.2.1 = some (e_R 4 (j_cp cap) f3) ∧ (∀ j, j < cap → f3 j = f j) ∧ ∀ j, cap ≤ j → f3 j = none) ∧ ∀ c, c ≠ a → c ≠ h.2.1 → h3.1 c = h.1 c
theorem v_gro1 (hg : e_GK g) (hC0 : e_GC g) (hlt : j_lt h) (ha : h.1 a = some (e_O 0 V)) (h1 : V 1 = .ref b) (hb : (cap = 0 ∧ b = g.2.2.2.2 0) ∨ (10 ≤ cap ∧ h.1 b = some (e_R 4 cap f))) (hc : cap ≤ 20000) (hel : j_el h f cap)
    (q : ∀ h3, j_grP h a cap V f h3 → Ψ (some (.ref h.2.1)) h3) : j_Sc g jm_gro1 [.ref a, .int (nI (cap + 1))] h Ψ := by
  have hal : a ≠ h.2.1 := Nat.ne_of_lt (hlt _ _ ha)
  refine j_run jo_gro1 (show 2 ≤ 4 from by decide) ?_
  refine r_aload (i := 0) (by decide +kernel) rfl ?_
  refine r_get (x := 9) 1 hg rfl (by decide) jf_9 (Or.inl rfl) (by decide +kernel) ha ?_
  rw [h1]
  rcases hb with ⟨c0, rfl⟩ | ⟨c10, hb⟩
  · subst c0
    refine r_alenS hg (by decide +kernel) ?_
    refine r_istore (i := 2) (by decide +kernel) (show 2 < 4 from by decide) ?_
    refine r_iload (i := 2) (by decide +kernel) rfl ?_
    refine r_gt0 (off := 13) 20 (by decide +kernel) (by decide) (fun c => absurd c (by decide)) (fun _ => ?_)
    refine r_aload (i := 0) (by decide +kernel) rfl ?_
    refine r_get (x := 9) 1 hg rfl (by decide) jf_9 (Or.inl rfl) (by decide +kernel) ha ?_
    rw [h1]
    refine r_gets (x := 39) hg rfl jf_39 (by decide +kernel) ?_
    refine r_aeq (off := 28) 45 (by decide +kernel) (by decide) ?_
    refine r_aload (i := 0) (by decide +kernel) rfl ?_
    refine r_bipush (i := 10) (x := 10) (by decide +kernel) rfl ?_
    refine r_iload (i := 1) (by decide +kernel) rfl ?_
    refine r_max (x := 79) rfl jl_maxA (by decide +kernel) (by decide) (by decide) (show 1 ≤ 8 from by decide) ?_
    rw [if_neg (show ¬ (10 : Int32) < nI (0 + 1) from by decide)]
    refine r_anew (x := 7) hg rfl jd_ob2 (by decide +kernel) (by decide) (by decide) ?_
    rw [show (10 : Int32).toNatClampNeg = 10 from by decide]
    refine r_dupx (by decide +kernel) rfl rfl ?_
    refine r_put (x := 9) 1 hg rfl (by decide) jf_9 (Or.inl rfl) trivial (by decide +kernel) (by rw [q_an hal]; exact ha) ?_
    refine r_areturn (by decide +kernel) rfl (Or.inr ⟨_, rfl⟩) (q _ ⟨rfl, ⟨_, q_s, rfl, rfl, rfl⟩, ⟨_, by rw [q_n (Ne.symm hal)]; exact q_as, fun j hj => by omega, fun j _ => rfl⟩, fun c c1 c2 => by rw [q_n c1, q_an c2]⟩)
  · have e0 : j_cp cap = cap + cap / 2 := if_neg (by omega)
    refine r_alen hg (by decide +kernel) hb ?_
    refine r_istore (i := 2) (by decide +kernel) (show 2 < 4 from by decide) ?_
    refine r_iload (i := 2) (by decide +kernel) rfl ?_
    refine r_gt0 (off := 13) 20 (by decide +kernel) (by decide) (fun _ => ?_) (fun c => absurd (show nI 0 < nI cap from nI_lt (by omega) (by omega)) c)
    refine r_iload (i := 2) (by decide +kernel) rfl ?_
    refine r_iload (i := 1) (by decide +kernel) rfl ?_
    refine r_iload (i := 2) (by decide +kernel) rfl ?_
    refine r_isub (by decide +kernel) ?_
    rw [pk_sub (Nat.le_succ cap), show cap + 1 - cap = 1 by omega]
    refine r_iload (i := 2) (by decide +kernel) rfl ?_
    refine r_iconst (i := 1) (x := 1) (by decide +kernel) rfl ?_
    refine r_ishr (by decide +kernel) ?_
    rw [show nI cap >>> ((1 : Int32) &&& 31) = nI (cap / 2) by
      have k := pk_shrN (n := cap) (by omega) ((1 : Int32) &&& 31) 1 (by decide)
      rw [Nat.pow_one] at k
      exact k]
    refine r_stat (x := 73) (As := [.int (nI cap), .int (nI 1), .int (nI (cap / 2))]) (st := []) jm_nlen jo_nlen rfl jl_nlen jt_nlen (show _ = some 3 from by decide +kernel) ⟨by decide, by decide⟩ (by decide +kernel) (show 0 ≤ 8 from by decide) (v_nlen c10 hc ?_)
    refine r_istore (i := 3) (by decide +kernel) (show 3 < 4 from by decide) ?_
    refine r_aload (i := 0) (by decide +kernel) rfl ?_
    refine r_aload (i := 0) (by decide +kernel) rfl ?_
    refine r_get (x := 9) 1 hg rfl (by decide) jf_9 (Or.inl rfl) (by decide +kernel) ha ?_
    rw [h1]
    refine r_iload (i := 3) (by decide +kernel) rfl ?_
    refine r_stat (x := 66) (As := [.ref b, .int (nI (cap + cap / 2))]) (st := [.ref a]) jm_cpy2 jo_cpy2 rfl jl_cpy2 jt_cpy2 (show _ = some 2 from by decide +kernel) ⟨by decide, by decide⟩ (by decide +kernel) (show 1 ≤ 8 from by decide) (v_cpy2 hg hC0 hlt hb hel (by omega) (by omega) (fun h3 k1 k2 k3 => ?_))
    obtain ⟨f3, f1, f2, f4⟩ := k2
    show j_Wm g jm_gro1 Ψ _ _ [.ref h.2.1, .ref a] h3
    refine r_dupx (by decide +kernel) rfl rfl ?_
    refine r_put (x := 9) 1 hg rfl (by decide) jf_9 (Or.inl rfl) trivial (by decide +kernel) (by rw [k3 a hal]; exact ha) ?_
    refine r_areturn (by decide +kernel) rfl (Or.inr ⟨_, rfl⟩) (q _ ⟨by rw [e0]; exact k1, ⟨_, q_s, rfl, rfl, rfl⟩, ⟨f3, by rw [e0, q_n (Ne.symm hal)]; exact f1, f2, f4⟩, fun c c1 c2 => by rw [q_n c1, k3 c c2]⟩)
theorem v_gro0 (hg : e_GK g) (hC0 : e_GC g) (hlt : j_lt h) (ha : h.1 a = some (e_O 0 V)) (h1 : V 1 = .ref b) (h2 : V 2 = .int (nI cap)) (hb : (cap = 0 ∧ b = g.2.2.2.2 0) ∨ (10 ≤ cap ∧ h.1 b = some (e_R 4 cap f))) (hc : cap ≤ 20000) (hel : j_el h f cap)
    (q : ∀ h3, j_grP h a cap V f h3 → Ψ (some (.ref h.2.1)) h3) : j_Sc g jm_gro0 [.ref a] h Ψ := by
  refine j_run jo_gro0 (show 1 ≤ 1 from by decide) ?_
  refine r_aload (i := 0) (by decide +kernel) rfl ?_
  refine r_aload (i := 0) (by decide +kernel) rfl ?_
  refine r_get (x := 48) 2 hg rfl (by decide) jf_48 (Or.inl rfl) (by decide +kernel) ha ?_
  rw [h2]
  refine r_iconst (i := 1) (x := 1) (by decide +kernel) rfl ?_
  refine r_iadd (by decide +kernel) ?_
  rw [nI_1]
  refine r_virt (x := 69) (As := [.int (nI (cap + 1))]) (st := []) jm_gro1 hg jo_gro1 rfl rfl jl_gro1 jn_gro1 js_gro1 (show _ = some 1 from by decide +kernel) ⟨by decide, by decide⟩ (by decide +kernel) (show 0 ≤ 8 from by decide) ha (v_gro1 hg hC0 hlt ha h1 hb hc hel (fun h3 hp => ?_))
  exact r_areturn (by decide +kernel) rfl (Or.inr ⟨_, rfl⟩) (q h3 hp)
/-- the array that is written into, and how many there are of its places -/
def j_adP (h : e_Hp) (a b n cap : Nat) (f4 : Nat → Option Nat) (h3 : e_Hp) : Prop :=
  ∃ b3 cap3, ((n < cap ∧ b3 = b ∧ cap3 = cap ∧ h3.2 = h.2) ∨ (n = cap ∧ b3 = h.2.1 ∧ cap3 = j_cp cap ∧ h3.2 = (h.2.1 + 1, h.2.2 + j_cp cap))) ∧
    (∃ (V3 : Nat → Value) (z3 : Int32), h3.1 a = some (e_O 0 V3) ∧ V3 0 = .int z3 ∧ V3 1 = .ref b3 ∧ V3 2 = .int (nI (n + 1))) ∧ (∃ f3, h3.1 b3 = some (e_R 4 cap3 f3) ∧ ∀ j, f3 j = f4 j) ∧ ∀ c, c ≠ a → c ≠ b3 → h3.1 c = h.1 c
theorem v_padd {z : Int32} {x cx n : Nat} {Vx : Nat → Value} (hg : e_GK g) (hC0 : e_GC g) (hlt : j_lt h) (ha : h.1 a = some (e_O 0 V)) (h0 : V 0 = .int z) (h1 : V 1 = .ref b) (h2 : V 2 = .int (nI n)) (hb : (cap = 0 ∧ b = g.2.2.2.2 0) ∨ (10 ≤ cap ∧ h.1 b = some (e_R 4 cap f))) (hc : cap ≤ 20000) (hn : n ≤ cap) (hel : j_el h f n) (hf : ∀ j, n ≤ j → f j = none)
    (hx : h.1 x = some (e_O cx Vx)) (hcx : 1 ≤ cx) (q : ∀ h3, j_adP h a b n cap (fun j => if j = n then some x else f j) h3 → Ψ none h3) : j_Sc g jm_padd [.ref a, .ref x, .ref b, .int (nI n)] h Ψ := by
  have hal : a ≠ h.2.1 := Nat.ne_of_lt (hlt _ _ ha)
  have hxa : x ≠ a := fun e => by
    rw [e, ha] at hx; cases hx; omega
  have hxl : x ≠ h.2.1 := Nat.ne_of_lt (hlt _ _ hx)
  refine j_run jo_padd (show 4 ≤ 4 from by decide) ?_
  refine r_iload (i := 3) (by decide +kernel) rfl ?_
  refine r_aload (i := 2) (by decide +kernel) rfl ?_
  have tail : ∀ (H2 : e_Hp) (b3 cap3 : Nat) (V3 : Nat → Value) (f3 : Nat → Option Nat), n < cap3 → cap3 ≤ 40000 → H2.1 a = some (e_O 0 V3) → V3 0 = .int z → V3 1 = .ref b3 → H2.1 b3 = some (e_R 4 cap3 f3) → H2.1 x = some (e_O cx Vx) → (∀ j, f3 j = f j) → (∀ c, c ≠ a → c ≠ b3 → H2.1 c = h.1 c) → ((n < cap ∧ b3 = b ∧ cap3 = cap ∧ H2.2 = h.2) ∨ (n = cap ∧ b3 = h.2.1 ∧ cap3 = j_cp cap ∧ H2.2 = (h.2.1 + 1, h.2.2 + j_cp cap))) → j_Wm g jm_padd Ψ 11 [some (.ref a), some (.ref x), some (.ref b3), some (.int (nI n))] [] H2 := by
    intro H2 b3 cap3 V3 f3 k1 k2 k3 k4 k5 k6 k7 k8 k9 k10
    have hab : b3 ≠ a := fun e => by rw [e, k3] at k6; cases k6
    refine r_aload (i := 2) (by decide +kernel) rfl ?_
    refine r_iload (i := 3) (by decide +kernel) rfl ?_
    refine r_aload (i := 1) (by decide +kernel) rfl ?_
    refine r_aast hg hC0 (by decide +kernel) k6 k7 hcx (vp_in_nI k1 (by omega)) ?_
    rw [nI_clamp (by omega)]
    refine r_aload (i := 0) (by decide +kernel) rfl ?_
    refine r_iload (i := 3) (by decide +kernel) rfl ?_
    refine r_iconst (i := 1) (x := 1) (by decide +kernel) rfl ?_
    refine r_iadd (by decide +kernel) ?_
    rw [nI_1]
    refine r_put (x := 48) 2 hg rfl (by decide) jf_48 (Or.inl rfl) trivial (by decide +kernel) (by rw [q_n (Ne.symm hab)]; exact k3) ?_
    refine r_return (by decide +kernel) rfl (q _ ⟨b3, cap3, k10, ⟨_, z, q_s, k4, k5, rfl⟩, ⟨_, by rw [q_n hab]; exact q_s, fun j => ?_⟩, fun c c1 c2 => by rw [q_n c1, q_n c2]; exact k9 c c1 c2⟩)
    show va_up f3 n (some x) j = if j = n then some x else f j
    by_cases e : j = n
    · subst e; rw [up_s, if_pos rfl]
    · rw [up_n e, if_neg e]; exact k8 j
  have grow : n = cap → (∀ st, st = ([] : List Value) → j_Wm g jm_padd Ψ 6 [some (.ref a), some (.ref x), some (.ref b), some (.int (nI n))] st h) := by
    intro e st hst
    subst e hst
    refine r_aload (i := 0) (by decide +kernel) rfl ?_
    refine r_virt (x := 129) (As := []) (st := []) jm_gro0 hg jo_gro0 rfl rfl jl_gro0 jn_gro0 js_gro0 (show _ = some 0 from by decide +kernel) ⟨by decide, by decide⟩ (by decide +kernel) (show 0 ≤ 8 from by decide) ha (v_gro0 hg hC0 hlt ha h1 h2 hb hc hel (fun h3 hp => ?_))
    obtain ⟨p1, ⟨V3, p2, p3, p4, p5⟩, ⟨f3, p6, p7, p8⟩, p9⟩ := hp
    refine r_astore (i := 2) (by decide +kernel) (show 2 < 4 from by decide) ?_
    have cp : n < j_cp n ∧ j_cp n ≤ 40000 := by
      unfold j_cp
      split
      · omega
      · rcases hb with ⟨c, -⟩ | ⟨c, -⟩ <;> omega
    exact tail h3 h.2.1 (j_cp n) V3 f3 cp.1 cp.2 p2 (p3.trans h0) p4 p6 (by rw [p9 x hxa hxl]; exact hx) (fun j => by
      by_cases c : j < n
      · exact p7 j c
      · rw [p8 j (by omega), hf j (by omega)]) p9 (Or.inr ⟨rfl, rfl, rfl, p1⟩)
  by_cases c0 : cap = 0
  · have hb0 : b = g.2.2.2.2 0 := by
      rcases hb with ⟨-, e⟩ | ⟨c, -⟩
      · exact e
      · omega
    have en : n = cap := by omega
    have en0 : n = 0 := by omega
    rw [hb0]
    refine r_alenS hg (by decide +kernel) ?_
    refine r_ne (off := 8) 11 (by decide +kernel) (by decide) (fun c => absurd (by rw [en0]; rfl) c) (fun _ => ?_)
    rw [← hb0]
    exact grow en [] rfl
  · have hb4 : h.1 b = some (e_R 4 cap f) := by
      rcases hb with ⟨e, -⟩ | ⟨-, c⟩
      · exact absurd e c0
      · exact c
    refine r_alen hg (by decide +kernel) hb4 ?_
    refine r_ne (off := 8) 11 (by decide +kernel) (by decide) (fun c => ?_) (fun c => ?_)
    · have hlt2 : n < cap := Nat.lt_of_le_of_ne hn (fun e => c (by rw [e]))
      exact tail h b cap V f hlt2 (by omega) ha h0 h1 hb4 hx (fun _ => rfl) (fun _ _ _ => rfl) (Or.inl ⟨hlt2, rfl, rfl, rfl⟩)
    · have en : n = cap := (nI_eq (by omega) (by omega)).mp c
      exact grow en [] rfl
theorem v_add {z : Int32} {x cx n : Nat} {Vx : Nat → Value} (hg : e_GK g) (hC0 : e_GC g) (hlt : j_lt h) (ha : h.1 a = some (e_O 0 V)) (h0 : V 0 = .int z) (h1 : V 1 = .ref b) (h2 : V 2 = .int (nI n)) (hb : (cap = 0 ∧ b = g.2.2.2.2 0) ∨ (10 ≤ cap ∧ h.1 b = some (e_R 4 cap f))) (hc : cap ≤ 20000) (hn : n ≤ cap) (hel : j_el h f n) (hf : ∀ j, n ≤ j → f j = none)
    (hx : h.1 x = some (e_O cx Vx)) (hcx : 1 ≤ cx) (q : ∀ h3, j_adP h a b n cap (fun j => if j = n then some x else f j) h3 → Ψ (some (.int 1)) h3) : j_Sc g jm_add [.ref a, .ref x] h Ψ := by
  have hxa : x ≠ a := fun e => by
    rw [e, ha] at hx; cases hx; omega
  refine j_run jo_add (show 2 ≤ 2 from by decide) ?_
  refine r_aload (i := 0) (by decide +kernel) rfl ?_
  refine r_dup (by decide +kernel) rfl ?_
  refine r_get (x := 63) 0 hg rfl (by decide) jf_63 (Or.inr jf_s) (by decide +kernel) ha ?_
  rw [h0]
  refine r_iconst (i := 1) (x := 1) (by decide +kernel) rfl ?_
  refine r_iadd (by decide +kernel) ?_
  refine r_put (x := 63) 0 hg rfl (by decide) jf_63 (Or.inr jf_s) trivial (by decide +kernel) ha ?_
  have hot : ∀ c, c ≠ a → (e_wr h a (e_O 0 (va_up V 0 (.int (z + 1))))).1 c = h.1 c := fun c hc => q_n hc
  have hat : (e_wr h a (e_O 0 (va_up V 0 (.int (z + 1))))).1 a = some (e_O 0 (va_up V 0 (.int (z + 1)))) := q_s
  have hsz : (e_wr h a (e_O 0 (va_up V 0 (.int (z + 1))))).2 = h.2 := rfl
  generalize e_wr h a (e_O 0 (va_up V 0 (.int (z + 1)))) = H1 at hot hat hsz ⊢
  refine r_aload (i := 0) (by decide +kernel) rfl ?_
  refine r_aload (i := 1) (by decide +kernel) rfl ?_
  refine r_aload (i := 0) (by decide +kernel) rfl ?_
  refine r_get (x := 9) 1 hg rfl (by decide) jf_9 (Or.inl rfl) (by decide +kernel) hat ?_
  rw [show (va_up V 0 (.int (z + 1))) 1 = .ref b from h1]
  refine r_aload (i := 0) (by decide +kernel) rfl ?_
  refine r_get (x := 48) 2 hg rfl (by decide) jf_48 (Or.inl rfl) (by decide +kernel) hat ?_
  rw [show (va_up V 0 (.int (z + 1))) 2 = .int (nI n) from h2]
  have hlt1 : j_lt H1 := fun c d hcd => by
    rw [hsz]
    by_cases e : c = a
    · rw [e]; exact hlt _ _ ha
    · rw [hot c e] at hcd; exact hlt _ _ hcd
  have hob : ∀ {v : Nat} {cv : Nat} {Vv : Nat → Value}, 1 ≤ cv → h.1 v = some (e_O cv Vv) → H1.1 v = some (e_O cv Vv) := fun {v cv Vv} h1 hv => by
    rw [hot v (fun e => by rw [e, ha] at hv; cases hv; omega)]; exact hv
  refine r_virt (x := 131) (As := [.ref x, .ref b, .int (nI n)]) (st := []) jm_padd hg jo_padd rfl rfl jl_padd jn_padd js_padd (show _ = some 3 from by decide +kernel) ⟨by decide, by decide⟩ (by decide +kernel) (show 0 ≤ 8 from by decide) hat (v_padd (f := f) (cap := cap) (cx := cx) (Vx := Vx) hg hC0 hlt1 hat rfl h1 h2 ?_ hc hn ?_ hf (hob hcx hx) hcx (fun h3 hp => ?_))
  · rcases hb with c | ⟨c, d⟩
    · exact Or.inl c
    · exact Or.inr ⟨c, by rw [hot b (fun e => by rw [e, ha] at d; cases d)]; exact d⟩
  · intro j y hj hy
    obtain ⟨cy, Vy, y1, y2⟩ := hel j y hj hy
    exact ⟨cy, Vy, y1, hob y1 y2⟩
  · refine r_iconst (i := 1) (x := 1) (by decide +kernel) rfl ?_
    refine r_ireturn (by decide +kernel) (Or.inr ⟨rfl, Or.inr rfl⟩) (q h3 ?_)
    obtain ⟨b3, cap3, p1, p2, p3, p4⟩ := hp
    rw [hsz] at p1
    exact ⟨b3, cap3, p1, p2, p3, fun c c1 c2 => by rw [p4 c c1 c2]; exact hot c c1⟩
theorem v_rng {i n : Nat} (hg : e_GK g) (ha : h.1 a = some (e_O 0 V)) (h2 : V 2 = .int (nI n)) (hi : i ≤ n) (hn : n ≤ 30000) (q : Ψ none h) : j_Sc g jm_rng [.ref a, .int (nI i)] h Ψ := by
  refine j_run jo_rng (show 2 ≤ 2 from by decide) ?_
  refine r_iload (i := 1) (by decide +kernel) rfl ?_
  refine r_aload (i := 0) (by decide +kernel) rfl ?_
  refine r_get (x := 48) 2 hg rfl (by decide) jf_48 (Or.inl rfl) (by decide +kernel) ha ?_
  rw [h2]
  refine r_gt (off := 7) 12 (by decide +kernel) (by decide) (fun c => absurd c (nI_nlt hi (by omega))) (fun _ => ?_)
  refine r_iload (i := 1) (by decide +kernel) rfl ?_
  refine r_ge0 (off := 16) 25 (by decide +kernel) (by decide) (fun _ => ?_) (fun c => absurd (nI_pos' (by omega)) c)
  exact r_return (by decide +kernel) rfl q
theorem v_adda {z : Int32} {x cx n i : Nat} {Vx : Nat → Value} (hg : e_GK g) (hC0 : e_GC g) (hlt : j_lt h) (ha : h.1 a = some (e_O 0 V)) (h0 : V 0 = .int z) (h1 : V 1 = .ref b) (h2 : V 2 = .int (nI n)) (hb : (cap = 0 ∧ b = g.2.2.2.2 0) ∨ (10 ≤ cap ∧ h.1 b = some (e_R 4 cap f))) (hc : cap ≤ 20000) (hn : n ≤ cap) (hi : i ≤ n) (hel : j_el h f n) (hf : ∀ j, n ≤ j → f j = none)
    (hx : h.1 x = some (e_O cx Vx)) (hcx : 1 ≤ cx) (q : ∀ h3, j_adP h a b n cap (fun j => if j < i then f j else if j = i then some x else f (j - 1)) h3 → Ψ none h3) : j_Sc g jm_adda [.ref a, .int (nI i), .ref x] h Ψ := by
  have hal : a ≠ h.2.1 := Nat.ne_of_lt (hlt _ _ ha)
  have hxa : x ≠ a := fun e => by
    rw [e, ha] at hx; cases hx; omega
  have hxl : x ≠ h.2.1 := Nat.ne_of_lt (hlt _ _ hx)
  refine j_run jo_adda (show 3 ≤ 5 from by decide) ?_
  refine r_aload (i := 0) (by decide +kernel) rfl ?_
  refine r_iload (i := 1) (by decide +kernel) rfl ?_
  refine r_virt (x := 135) (As := [.int (nI i)]) (st := []) jm_rng hg jo_rng rfl rfl jl_rng jn_rng js_rng (show _ = some 1 from by decide +kernel) ⟨by decide, by decide⟩ (by decide +kernel) (show 0 ≤ 8 from by decide) ha (v_rng hg ha h2 hi (by omega) ?_)
  refine r_aload (i := 0) (by decide +kernel) rfl ?_
  refine r_dup (by decide +kernel) rfl ?_
  refine r_get (x := 63) 0 hg rfl (by decide) jf_63 (Or.inr jf_s) (by decide +kernel) ha ?_
  rw [h0]
  refine r_iconst (i := 1) (x := 1) (by decide +kernel) rfl ?_
  refine r_iadd (by decide +kernel) ?_
  refine r_put (x := 63) 0 hg rfl (by decide) jf_63 (Or.inr jf_s) trivial (by decide +kernel) ha ?_
  have hot : ∀ c, c ≠ a → (e_wr h a (e_O 0 (va_up V 0 (.int (z + 1))))).1 c = h.1 c := fun c hc => q_n hc
  have hat : (e_wr h a (e_O 0 (va_up V 0 (.int (z + 1))))).1 a = some (e_O 0 (va_up V 0 (.int (z + 1)))) := q_s
  have hsz : (e_wr h a (e_O 0 (va_up V 0 (.int (z + 1))))).2 = h.2 := rfl
  generalize e_wr h a (e_O 0 (va_up V 0 (.int (z + 1)))) = H1 at hot hat hsz ⊢
  have hlt1 : j_lt H1 := fun c d hcd => by
    rw [hsz]
    by_cases e : c = a
    · rw [e]; exact hlt _ _ ha
    · rw [hot c e] at hcd; exact hlt _ _ hcd
  have hob : ∀ {v : Nat} {cv : Nat} {Vv : Nat → Value}, 1 ≤ cv → h.1 v = some (e_O cv Vv) → H1.1 v = some (e_O cv Vv) := fun {v cv Vv} h1 hv => by
    rw [hot v (fun e => by rw [e, ha] at hv; cases hv; omega)]; exact hv
  have hel1 : j_el H1 f n := fun j y hj hy => by
    obtain ⟨cy, Vy, y1, y2⟩ := hel j y hj hy
    exact ⟨cy, Vy, y1, hob y1 y2⟩
  refine r_aload (i := 0) (by decide +kernel) rfl ?_
  refine r_get (x := 48) 2 hg rfl (by decide) jf_48 (Or.inl rfl) (by decide +kernel) hat ?_
  rw [show (va_up V 0 (.int (z + 1))) 2 = .int (nI n) from h2]
  refine r_dup (by decide +kernel) rfl ?_
  refine r_istore (i := 3) (by decide +kernel) (show 3 < 5 from by decide) ?_
  refine r_aload (i := 0) (by decide +kernel) rfl ?_
  refine r_get (x := 9) 1 hg rfl (by decide) jf_9 (Or.inl rfl) (by decide +kernel) hat ?_
  rw [show (va_up V 0 (.int (z + 1))) 1 = .ref b from h1]
  refine r_dup (by decide +kernel) rfl ?_
  refine r_astore4 (i := 4) (by decide +kernel) (show 4 < 5 from by decide) ?_
  have tail : ∀ (H2 : e_Hp) (b3 cap3 : Nat) (V3 : Nat → Value) (f3 : Nat → Option Nat), n < cap3 → cap3 ≤ 40000 → H2.1 a = some (e_O 0 V3) → V3 0 = .int (z + 1) → V3 1 = .ref b3 → H2.1 b3 = some (e_R 4 cap3 f3) → (∀ {v : Nat} {cv : Nat} {Vv : Nat → Value}, 1 ≤ cv → h.1 v = some (e_O cv Vv) → H2.1 v = some (e_O cv Vv)) → (∀ j, f3 j = f j) → (∀ c, c ≠ a → c ≠ b3 → H2.1 c = h.1 c) → ((n < cap ∧ b3 = b ∧ cap3 = cap ∧ H2.2 = h.2) ∨ (n = cap ∧ b3 = h.2.1 ∧ cap3 = j_cp cap ∧ H2.2 = (h.2.1 + 1, h.2.2 + j_cp cap))) → j_Wm g jm_adda Ψ 38 [some (.ref a), some (.int (nI i)), some (.ref x), some (.int (nI n)), some (.ref b3)] [] H2 := by
    intro H2 b3 cap3 V3 f3 k1 k2 k3 k4 k5 k6 k7 k8 k9 k10
    have hab : b3 ≠ a := fun e => by rw [e, k3] at k6; cases k6
    have hxb : x ≠ b3 := fun e => by
      have := k7 hcx hx
      rw [e, k6] at this; cases this
    refine r_aload4 (i := 4) (by decide +kernel) rfl ?_
    refine r_iload (i := 1) (by decide +kernel) rfl ?_
    refine r_aload4 (i := 4) (by decide +kernel) rfl ?_
    refine r_iload (i := 1) (by decide +kernel) rfl ?_
    refine r_iconst (i := 1) (x := 1) (by decide +kernel) rfl ?_
    refine r_iadd (by decide +kernel) ?_
    rw [nI_1]
    refine r_iload (i := 3) (by decide +kernel) rfl ?_
    refine r_iload (i := 1) (by decide +kernel) rfl ?_
    refine r_isub (by decide +kernel) ?_
    rw [pk_sub hi]
    refine r_copy (x := 112) hg hC0 rfl jl_ac (by decide +kernel) (by decide) (by decide) (show 0 ≤ 8 from by decide) k6 k6 (nI_pos (by omega)) (nI_pos (by omega)) (nI_pos (by omega)) (by rw [nI_clamp (by omega), nI_clamp (by omega)]; omega) (by rw [nI_clamp (by omega), nI_clamp (by omega)]; omega) (fun k hk y hy => ?_) ?_
    · rw [nI_clamp (by omega)] at hk hy
      rw [k8] at hy
      obtain ⟨cy, Vy, y1, y2⟩ := hel _ y (by omega) hy
      exact ⟨cy, Vy, y1, k7 y1 y2⟩
    · rw [nI_clamp (by omega), nI_clamp (by omega), nI_clamp (by omega)]
      refine r_aload4 (i := 4) (by decide +kernel) rfl ?_
      refine r_iload (i := 1) (by decide +kernel) rfl ?_
      refine r_aload (i := 2) (by decide +kernel) rfl ?_
      refine r_aast hg hC0 (by decide +kernel) q_s (by rw [q_n hxb]; exact k7 hcx hx) hcx (vp_in_nI (by omega) (by omega)) ?_
      rw [nI_clamp (by omega)]
      refine r_aload (i := 0) (by decide +kernel) rfl ?_
      refine r_iload (i := 3) (by decide +kernel) rfl ?_
      refine r_iconst (i := 1) (x := 1) (by decide +kernel) rfl ?_
      refine r_iadd (by decide +kernel) ?_
      rw [nI_1]
      refine r_put (x := 48) 2 hg rfl (by decide) jf_48 (Or.inl rfl) trivial (by decide +kernel) (by rw [q_n (Ne.symm hab), q_n (Ne.symm hab)]; exact k3) ?_
      refine r_return (by decide +kernel) rfl (q _ ⟨b3, cap3, k10, ⟨_, z + 1, q_s, k4, k5, rfl⟩, ⟨_, by rw [q_n hab]; exact q_s, fun j => ?_⟩, fun c c1 c2 => by rw [q_n c1, q_n c2, q_n c2]; exact k9 c c1 c2⟩)
      show va_up (va_cpy f3 f3 i (i + 1) (n - i)) i (some x) j = if j < i then f j else if j = i then some x else f (j - 1)
      by_cases e : j = i
      · subst e; rw [up_s, if_neg (Nat.lt_irrefl _), if_pos rfl]
      · rw [up_n e]
        by_cases e1 : j < i
        · rw [if_pos e1, pk_cpy_out (Or.inl (by omega))]; exact k8 j
        · rw [if_neg e1, if_neg e]
          by_cases e2 : j < n + 1
          · rw [pk_cpy_in (by omega) (by omega), k8]; congr 1; omega
          · rw [pk_cpy_out (Or.inr (by omega)), k8, hf j (by omega), hf (j - 1) (by omega)]
  have hb1 : (cap = 0 ∧ b = g.2.2.2.2 0) ∨ (10 ≤ cap ∧ H1.1 b = some (e_R 4 cap f)) := by
    rcases hb with c | ⟨c, d⟩
    · exact Or.inl c
    · exact Or.inr ⟨c, by rw [hot b (fun e => by rw [e, ha] at d; cases d)]; exact d⟩
  have grow : n = cap → ∀ (lv : e_Lv), lv = [some (.ref a), some (.int (nI i)), some (.ref x), some (.int (nI n)), some (.ref b)] → j_Wm g jm_adda Ψ 32 lv [] H1 := by
    intro e lv hlv
    subst e hlv
    refine r_aload (i := 0) (by decide +kernel) rfl ?_
    refine r_virt (x := 129) (As := []) (st := []) jm_gro0 hg jo_gro0 rfl rfl jl_gro0 jn_gro0 js_gro0 (show _ = some 0 from by decide +kernel) ⟨by decide, by decide⟩ (by decide +kernel) (show 0 ≤ 8 from by decide) hat (v_gro0 (b := b) (f := f) hg hC0 hlt1 hat h1 h2 hb1 hc hel1 (fun h3 hp => ?_))
    obtain ⟨p1, ⟨V3, p2, p3, p4, p5⟩, ⟨f3, p6, p7, p8⟩, p9⟩ := hp
    rw [hsz] at p1 p4 p6 p9
    rw [show H1.2.1 = h.2.1 from by rw [hsz]]
    show j_Wm g jm_adda Ψ _ _ [.ref h.2.1] h3
    refine r_astore4 (i := 4) (by decide +kernel) (show 4 < 5 from by decide) ?_
    have cp : n < j_cp n ∧ j_cp n ≤ 40000 := by
      unfold j_cp
      split
      · omega
      · rcases hb with ⟨c, -⟩ | ⟨c, -⟩ <;> omega
    exact tail h3 h.2.1 (j_cp n) V3 f3 cp.1 cp.2 p2 p3 p4 p6 (fun {v cv Vv} y1 y2 => by
      rw [p9 v (fun e => by rw [e, ha] at y2; cases y2; omega) (Nat.ne_of_lt (hlt _ _ y2))]; exact hob y1 y2) (fun j => by
      by_cases c : j < n
      · exact p7 j c
      · rw [p8 j (by omega), hf j (by omega)]) (fun c c1 c2 => by rw [p9 c c1 c2]; exact hot c c1) (Or.inr ⟨rfl, rfl, rfl, p1⟩)
  by_cases c0 : cap = 0
  · have hb0 : b = g.2.2.2.2 0 := by
      rcases hb with ⟨-, e⟩ | ⟨c, -⟩
      · exact e
      · omega
    have en : n = cap := by omega
    have en0 : n = 0 := by omega
    have key := grow en _ rfl
    rw [hb0] at key ⊢
    refine r_alenS hg (by decide +kernel) ?_
    exact r_ne (off := 9) 38 (by decide +kernel) (by decide) (fun c => absurd (by rw [en0]; rfl) c) (fun _ => key)
  · have hb4 : H1.1 b = some (e_R 4 cap f) := by
      rcases hb1 with ⟨e, -⟩ | ⟨-, c⟩
      · exact absurd e c0
      · exact c
    refine r_alen hg (by decide +kernel) hb4 ?_
    refine r_ne (off := 9) 38 (by decide +kernel) (by decide) (fun c => ?_) (fun c => ?_)
    · have hlt2 : n < cap := Nat.lt_of_le_of_ne hn (fun e => c (by rw [e]))
      exact tail H1 b cap _ f hlt2 (by omega) hat rfl h1 hb4 hob (fun _ => rfl) (fun c c1 _ => hot c c1) (Or.inl ⟨hlt2, rfl, rfl, hsz⟩)
    · exact grow ((nI_eq (by omega) (by omega)).mp c) _ rfl
end JE
