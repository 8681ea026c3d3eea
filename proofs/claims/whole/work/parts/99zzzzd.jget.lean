/-! walks: size, isEmpty, get, remove, clear, a new one -/
section JD
variable {g : e_G} {Ψ : e_Q} {h : e_Hp} {a b cap : Nat} {V : Nat → Value}
theorem v_size {n : Int32} (hg : e_GK g) (ha : h.1 a = some (e_O 0 V)) (h2 : V 2 = .int n) (q : Ψ (some (.int n)) h) : j_Sc g jm_size [.ref a] h Ψ := by
  refine j_run jo_size (show 1 ≤ 1 from by decide) ?_
  refine r_aload (i := 0) (by decide +kernel) rfl ?_
  refine r_get (x := 48) 2 hg rfl (by decide) jf_48 (Or.inl rfl) (by decide +kernel) ha ?_
  rw [h2]
  exact r_ireturn (by decide +kernel) (Or.inl rfl) q
theorem v_empt {n : Int32} (hg : e_GK g) (ha : h.1 a = some (e_O 0 V)) (h2 : V 2 = .int n) (q : Ψ (some (.int (if n = 0 then 1 else 0))) h) : j_Sc g jm_empt [.ref a] h Ψ := by
  refine j_run jo_empt (show 1 ≤ 1 from by decide) ?_
  refine r_aload (i := 0) (by decide +kernel) rfl ?_
  refine r_get (x := 48) 2 hg rfl (by decide) jf_48 (Or.inl rfl) (by decide +kernel) ha ?_
  rw [h2]
  refine r_ne0 (off := 7) 11 (by decide +kernel) (by decide) (fun c => ?_) (fun c => ?_)
  · rw [if_neg c] at q
    refine r_iconst (i := 0) (x := 0) (by decide +kernel) rfl ?_
    exact r_ireturn (by decide +kernel) (Or.inr ⟨rfl, Or.inl rfl⟩) q
  · rw [if_pos c] at q
    refine r_iconst (i := 1) (x := 1) (by decide +kernel) rfl ?_
    refine r_goto (off := 4) 12 (by decide +kernel) (by decide) ?_
    exact r_ireturn (by decide +kernel) (Or.inr ⟨rfl, Or.inr rfl⟩) q
theorem v_prec {i n : Int32} (h0 : ¬ i < 0) (h1 : i < n) (q : Ψ (some (.int i)) h) : j_Sc g jm_prec [.int i, .int n, .null] h Ψ := by
  refine j_run jo_prec (show 3 ≤ 3 from by decide) ?_
  refine r_iload (i := 0) (by decide +kernel) rfl ?_
  refine r_lt0 (off := 8) 9 (by decide +kernel) (by decide) (fun z => absurd z h0) (fun _ => ?_)
  refine r_iload (i := 0) (by decide +kernel) rfl ?_
  refine r_iload (i := 1) (by decide +kernel) rfl ?_
  refine r_lt (off := 10) 16 (by decide +kernel) (by decide) (fun _ => ?_) (fun z => absurd h1 z)
  refine r_iload (i := 0) (by decide +kernel) rfl ?_
  exact r_ireturn (by decide +kernel) (Or.inl rfl) q
theorem v_chk {i n : Int32} (h0 : ¬ i < 0) (h1 : i < n) (q : Ψ (some (.int i)) h) : j_Sc g jm_chk [.int i, .int n] h Ψ := by
  refine j_run jo_chk (show 2 ≤ 2 from by decide) ?_
  refine r_iload (i := 0) (by decide +kernel) rfl ?_
  refine r_iload (i := 1) (by decide +kernel) rfl ?_
  refine r_null (by decide +kernel) ?_
  refine r_stat (x := 105) (As := [.int i, .int n, .null]) (st := []) jm_prec jo_prec rfl jl_prec jt_prec (show _ = some 3 from by decide +kernel) ⟨by decide, by decide⟩ (by decide +kernel) (show 0 ≤ 8 from by decide) (v_prec h0 h1 ?_)
  exact r_ireturn (by decide +kernel) (Or.inl rfl) q
theorem v_elem {i : Int32} {x : Nat} {f : Nat → Option Nat} (hg : e_GK g) (ha : h.1 a = some (e_O 0 V)) (h1 : V 1 = .ref b) (hb : h.1 b = some (e_R 4 cap f)) (hi : vp_in i cap) (hx : f i.toNatClampNeg = some x) (q : Ψ (some (.ref x)) h) : j_Sc g jm_elem [.ref a, .int i] h Ψ := by
  refine j_run jo_elem (show 2 ≤ 2 from by decide) ?_
  refine r_aload (i := 0) (by decide +kernel) rfl ?_
  refine r_get (x := 9) 1 hg rfl (by decide) jf_9 (Or.inl rfl) (by decide +kernel) ha ?_
  rw [h1]
  refine r_iload (i := 1) (by decide +kernel) rfl ?_
  refine r_aald (v := .ref x) hg (by decide +kernel) hb hi (by rw [hx]; rfl) ?_
  exact r_areturn (by decide +kernel) rfl (Or.inl ⟨_, rfl⟩) q
theorem v_get {i n : Int32} {x : Nat} {f : Nat → Option Nat} (hg : e_GK g) (ha : h.1 a = some (e_O 0 V)) (h1 : V 1 = .ref b) (h2 : V 2 = .int n) (hb : h.1 b = some (e_R 4 cap f)) (h0 : ¬ i < 0) (hn : i < n) (hi : vp_in i cap) (hx : f i.toNatClampNeg = some x) (q : Ψ (some (.ref x)) h) : j_Sc g jm_get [.ref a, .int i] h Ψ := by
  refine j_run jo_get (show 2 ≤ 2 from by decide) ?_
  refine r_iload (i := 1) (by decide +kernel) rfl ?_
  refine r_aload (i := 0) (by decide +kernel) rfl ?_
  refine r_get (x := 48) 2 hg rfl (by decide) jf_48 (Or.inl rfl) (by decide +kernel) ha ?_
  rw [h2]
  refine r_stat (x := 118) (As := [.int i, .int n]) (st := []) jm_chk jo_chk rfl jl_chk jt_chk (show _ = some 2 from by decide +kernel) ⟨by decide, by decide⟩ (by decide +kernel) (show 0 ≤ 8 from by decide) (v_chk h0 hn ?_)
  refine r_pop (by decide +kernel) rfl ?_
  refine r_aload (i := 0) (by decide +kernel) rfl ?_
  refine r_iload (i := 1) (by decide +kernel) rfl ?_
  refine r_virt (x := 123) (As := [.int i]) (st := []) jm_elem hg jo_elem rfl rfl jl_elem jn_elem js_elem (show _ = some 1 from by decide +kernel) ⟨by decide, by decide⟩ (by decide +kernel) (show 0 ≤ 8 from by decide) ha (v_elem hg ha h1 hb hi hx ?_)
  exact r_areturn (by decide +kernel) rfl (Or.inl ⟨_, rfl⟩) q
/-- what stands behind fastRemove -/
def j_rmP (h : e_Hp) (a b n i cap : Nat) (V : Nat → Value) (f : Nat → Option Nat) (h3 : e_Hp) : Prop :=
  h3.2 = h.2 ∧ (∃ (V3 : Nat → Value) (z : Int32), h3.1 a = some (e_O 0 V3) ∧ V3 0 = .int z ∧ V3 1 = V 1 ∧ V3 2 = .int (nI n)) ∧
  (∃ f3, h3.1 b = some (e_R 4 cap f3) ∧ (∀ j, j < i → f3 j = f j) ∧ (∀ j, i ≤ j → j < n → f3 j = f (j + 1)) ∧ f3 n = none ∧ ∀ j, n < j → f3 j = f j) ∧ ∀ c, c ≠ a → c ≠ b → h3.1 c = h.1 c
theorem v_fast {z : Int32} {i n : Nat} {f : Nat → Option Nat} (hg : e_GK g) (hC0 : e_GC g) (ha : h.1 a = some (e_O 0 V)) (h0 : V 0 = .int z) (h2 : V 2 = .int (nI (n + 1))) (hb : h.1 b = some (e_R 4 cap f)) (hi : i ≤ n) (hn : n + 1 ≤ cap) (hc : cap ≤ 30000)
    (hel : ∀ j y, j < n + 1 → f j = some y → ∃ (cy : Nat) (Vy : Nat → Value), 1 ≤ cy ∧ h.1 y = some (e_O cy Vy)) (q : ∀ h3, j_rmP h a b n i cap V f h3 → Ψ none h3) : j_Sc g jm_fast [.ref a, .ref b, .int (nI i)] h Ψ := by
  have hab : b ≠ a := fun e => by rw [e, ha] at hb; cases hb
  refine j_run jo_fast (show 3 ≤ 4 from by decide) ?_
  refine r_aload (i := 0) (by decide +kernel) rfl ?_
  refine r_dup (by decide +kernel) rfl ?_
  refine r_get (x := 63) 0 hg rfl (by decide) jf_63 (Or.inr jf_s) (by decide +kernel) ha ?_
  rw [h0]
  refine r_iconst (i := 1) (x := 1) (by decide +kernel) rfl ?_
  refine r_iadd (by decide +kernel) ?_
  refine r_put (x := 63) 0 hg rfl (by decide) jf_63 (Or.inr jf_s) trivial (by decide +kernel) ha ?_
  have hbn : (e_wr h a (e_O 0 (va_up V 0 (.int (z + 1))))).1 b = some (e_R 4 cap f) := by rw [q_n hab]; exact hb
  have hot : ∀ c, c ≠ a → (e_wr h a (e_O 0 (va_up V 0 (.int (z + 1))))).1 c = h.1 c := fun c hc => q_n hc
  have hat : (e_wr h a (e_O 0 (va_up V 0 (.int (z + 1))))).1 a = some (e_O 0 (va_up V 0 (.int (z + 1)))) := q_s
  have hsz : (e_wr h a (e_O 0 (va_up V 0 (.int (z + 1))))).2 = h.2 := rfl
  generalize e_wr h a (e_O 0 (va_up V 0 (.int (z + 1)))) = H1 at hbn hot hat hsz ⊢
  refine r_aload (i := 0) (by decide +kernel) rfl ?_
  refine r_get (x := 48) 2 hg rfl (by decide) jf_48 (Or.inl rfl) (by decide +kernel) hat ?_
  rw [show (va_up V 0 (.int (z + 1))) 2 = .int (nI (n + 1)) from h2]
  refine r_iconst (i := 1) (x := 1) (by decide +kernel) rfl ?_
  refine r_isub (by decide +kernel) ?_
  rw [nI_pred]
  refine r_dup (by decide +kernel) rfl ?_
  refine r_istore (i := 3) (by decide +kernel) (show 3 < 4 from by decide) ?_
  refine r_iload (i := 2) (by decide +kernel) rfl ?_
  have tail : ∀ (H2 : e_Hp) (f2 : Nat → Option Nat), H2.1 a = some (e_O 0 (va_up V 0 (.int (z + 1)))) → H2.1 b = some (e_R 4 cap f2) → (∀ c, c ≠ a → c ≠ b → H2.1 c = h.1 c) → H2.2 = h.2 → (∀ j, j < i → f2 j = f j) → (∀ j, i ≤ j → j < n → f2 j = f (j + 1)) → (∀ j, n < j → f2 j = f j) → j_Wm g jm_fast Ψ 34 [some (.ref a), some (.ref b), some (.int (nI i)), some (.int (nI n))] [] H2 := by
    intro H2 f2 k1 k2 k3 k4 k5 k6 k7
    refine r_aload (i := 1) (by decide +kernel) rfl ?_
    refine r_aload (i := 0) (by decide +kernel) rfl ?_
    refine r_iload (i := 3) (by decide +kernel) rfl ?_
    refine r_dupx (by decide +kernel) rfl rfl ?_
    refine r_put (x := 48) 2 hg rfl (by decide) jf_48 (Or.inl rfl) trivial (by decide +kernel) k1 ?_
    have hb2 : (e_wr H2 a (e_O 0 (va_up (va_up V 0 (.int (z + 1))) 2 (.int (nI n))))).1 b = some (e_R 4 cap f2) := by rw [q_n hab]; exact k2
    refine r_null (by decide +kernel) ?_
    refine r_aastN hg (by decide +kernel) hb2 (vp_in_nI (by omega) (by omega)) ?_
    refine r_return (by decide +kernel) rfl (q _ ⟨k4, ⟨va_up (va_up V 0 (.int (z + 1))) 2 (.int (nI n)), z + 1, by rw [q_n (Ne.symm hab)]; exact q_s, rfl, rfl, rfl⟩, ⟨_, q_s, fun j hj => ?_, fun j h1 h2 => ?_, ?_, fun j hj => ?_⟩, fun c c1 c2 => by rw [q_n c2, q_n c1]; exact k3 c c1 c2⟩)
    · rw [nI_clamp (by omega), up_n (by omega)]; exact k5 j hj
    · rw [nI_clamp (by omega), up_n (by omega)]; exact k6 j h1 h2
    · rw [nI_clamp (by omega)]; exact up_s
    · rw [nI_clamp (by omega), up_n (by omega)]; exact k7 j hj
  refine r_le (off := 15) 34 (by decide +kernel) (by decide) (fun c => ?_) (fun c => ?_)
  · have hin : n ≤ i := (nI_leI (by omega) (by omega)).mp c
    exact tail H1 f hat hbn (fun c c1 _ => hot c c1) hsz (fun j _ => rfl) (fun j h1 h2 => by omega) (fun j _ => rfl)
  · have hin : i < n := Nat.not_le.mp (fun z => c ((nI_leI (by omega) (by omega)).mpr z))
    refine r_aload (i := 1) (by decide +kernel) rfl ?_
    refine r_iload (i := 2) (by decide +kernel) rfl ?_
    refine r_iconst (i := 1) (x := 1) (by decide +kernel) rfl ?_
    refine r_iadd (by decide +kernel) ?_
    rw [nI_1]
    refine r_aload (i := 1) (by decide +kernel) rfl ?_
    refine r_iload (i := 2) (by decide +kernel) rfl ?_
    refine r_iload (i := 3) (by decide +kernel) rfl ?_
    refine r_iload (i := 2) (by decide +kernel) rfl ?_
    refine r_isub (by decide +kernel) ?_
    rw [pk_sub hi]
    refine r_copy (x := 112) hg hC0 rfl jl_ac (by decide +kernel) (by decide) (by decide) (show 0 ≤ 8 from by decide) hbn hbn (nI_pos (by omega)) (nI_pos (by omega)) (nI_pos (by omega)) (by rw [nI_clamp (by omega), nI_clamp (by omega)]; omega) (by rw [nI_clamp (by omega), nI_clamp (by omega)]; omega) (fun k hk y hy => ?_) ?_
    · rw [nI_clamp (by omega)] at hk hy
      obtain ⟨cy, Vy, y1, y2⟩ := hel _ y (by omega) hy
      by_cases e : y = a
      · rw [e, ha] at y2
        cases y2
        omega
      · exact ⟨cy, Vy, y1, by rw [hot y e]; exact y2⟩
    · rw [nI_clamp (by omega), nI_clamp (by omega), nI_clamp (by omega)]
      refine tail _ _ (by rw [q_n (Ne.symm hab)]; exact hat) q_s (fun c c1 c2 => by rw [q_n c2]; exact hot c c1) hsz (fun j hj => ?_) (fun j h1 h2 => ?_) (fun j hj => ?_)
      · exact pk_cpy_out (Or.inl hj)
      · rw [pk_cpy_in h1 (by omega)]; congr 1; omega
      · exact pk_cpy_out (Or.inr (by omega))
theorem v_rem {z : Int32} {i n x : Nat} {f : Nat → Option Nat} (hg : e_GK g) (hC0 : e_GC g) (ha : h.1 a = some (e_O 0 V)) (h0 : V 0 = .int z) (h1 : V 1 = .ref b) (h2 : V 2 = .int (nI (n + 1))) (hb : h.1 b = some (e_R 4 cap f)) (hi : i ≤ n) (hn : n + 1 ≤ cap) (hc : cap ≤ 30000) (hx : f i = some x)
    (hel : ∀ j y, j < n + 1 → f j = some y → ∃ (cy : Nat) (Vy : Nat → Value), 1 ≤ cy ∧ h.1 y = some (e_O cy Vy)) (q : ∀ h3, j_rmP h a b n i cap V f h3 → Ψ (some (.ref x)) h3) : j_Sc g jm_rem [.ref a, .int (nI i)] h Ψ := by
  refine j_run jo_rem (show 2 ≤ 4 from by decide) ?_
  refine r_iload (i := 1) (by decide +kernel) rfl ?_
  refine r_aload (i := 0) (by decide +kernel) rfl ?_
  refine r_get (x := 48) 2 hg rfl (by decide) jf_48 (Or.inl rfl) (by decide +kernel) ha ?_
  rw [h2]
  refine r_stat (x := 118) (As := [.int (nI i), .int (nI (n + 1))]) (st := []) jm_chk jo_chk rfl jl_chk jt_chk (show _ = some 2 from by decide +kernel) ⟨by decide, by decide⟩ (by decide +kernel) (show 0 ≤ 8 from by decide) (v_chk (nI_pos (by omega)) (nI_lt (by omega) (by omega)) ?_)
  refine r_pop (by decide +kernel) rfl ?_
  refine r_aload (i := 0) (by decide +kernel) rfl ?_
  refine r_get (x := 9) 1 hg rfl (by decide) jf_9 (Or.inl rfl) (by decide +kernel) ha ?_
  rw [h1]
  refine r_astore (i := 2) (by decide +kernel) (show 2 < 4 from by decide) ?_
  refine r_aload (i := 2) (by decide +kernel) rfl ?_
  refine r_iload (i := 1) (by decide +kernel) rfl ?_
  refine r_aald (v := .ref x) hg (by decide +kernel) hb (vp_in_nI (by omega) (by omega)) (by rw [nI_clamp (by omega), hx]; rfl) ?_
  refine r_astore (i := 3) (by decide +kernel) (show 3 < 4 from by decide) ?_
  refine r_aload (i := 0) (by decide +kernel) rfl ?_
  refine r_aload (i := 2) (by decide +kernel) rfl ?_
  refine r_iload (i := 1) (by decide +kernel) rfl ?_
  refine r_virt (x := 144) (As := [.ref b, .int (nI i)]) (st := []) jm_fast hg jo_fast rfl rfl jl_fast jn_fast js_fast (show _ = some 2 from by decide +kernel) ⟨by decide, by decide⟩ (by decide +kernel) (show 0 ≤ 8 from by decide) ha (v_fast hg hC0 ha h0 h2 hb hi hn hc hel (fun h3 hp => ?_))
  refine r_aload (i := 3) (by decide +kernel) rfl ?_
  exact r_areturn (by decide +kernel) rfl (Or.inl ⟨_, rfl⟩) (q h3 hp)
theorem v_clr {z : Int32} {n : Nat} {f : Nat → Option Nat} (hg : e_GK g) (ha : h.1 a = some (e_O 0 V)) (h0 : V 0 = .int z) (h1 : V 1 = .ref b) (h2 : V 2 = .int (nI n)) (hb : n = 0 ∨ h.1 b = some (e_R 4 cap f)) (hn : n ≤ cap) (hc : cap ≤ 30000)
    (q : ∀ h3, h3.2 = h.2 → (∃ (V3 : Nat → Value) (z3 : Int32), h3.1 a = some (e_O 0 V3) ∧ V3 0 = .int z3 ∧ V3 1 = V 1 ∧ V3 2 = .int 0) → (n = 0 ∧ (∀ c, c ≠ a → h3.1 c = h.1 c) ∨ ∃ f3, h3.1 b = some (e_R 4 cap f3) ∧ (∀ j, j < n → f3 j = none) ∧ (∀ j, n ≤ j → f3 j = f j) ∧ ∀ c, c ≠ a → c ≠ b → h3.1 c = h.1 c) → Ψ none h3) : j_Sc g jm_clr [.ref a] h Ψ := by
  refine j_run jo_clr (show 1 ≤ 4 from by decide) ?_
  refine r_aload (i := 0) (by decide +kernel) rfl ?_
  refine r_dup (by decide +kernel) rfl ?_
  refine r_get (x := 63) 0 hg rfl (by decide) jf_63 (Or.inr jf_s) (by decide +kernel) ha ?_
  rw [h0]
  refine r_iconst (i := 1) (x := 1) (by decide +kernel) rfl ?_
  refine r_iadd (by decide +kernel) ?_
  refine r_put (x := 63) 0 hg rfl (by decide) jf_63 (Or.inr jf_s) trivial (by decide +kernel) ha ?_
  have hot : ∀ c, c ≠ a → (e_wr h a (e_O 0 (va_up V 0 (.int (z + 1))))).1 c = h.1 c := fun c hc => q_n hc
  have hat : (e_wr h a (e_O 0 (va_up V 0 (.int (z + 1))))).1 a = some (e_O 0 (va_up V 0 (.int (z + 1)))) := q_s
  have hsz : (e_wr h a (e_O 0 (va_up V 0 (.int (z + 1))))).2 = h.2 := rfl
  generalize e_wr h a (e_O 0 (va_up V 0 (.int (z + 1)))) = H1 at hot hat hsz ⊢
  refine r_aload (i := 0) (by decide +kernel) rfl ?_
  refine r_get (x := 9) 1 hg rfl (by decide) jf_9 (Or.inl rfl) (by decide +kernel) hat ?_
  rw [show (va_up V 0 (.int (z + 1))) 1 = .ref b from h1]
  refine r_astore (i := 1) (by decide +kernel) (show 1 < 4 from by decide) ?_
  refine r_aload (i := 0) (by decide +kernel) rfl ?_
  refine r_get (x := 48) 2 hg rfl (by decide) jf_48 (Or.inl rfl) (by decide +kernel) hat ?_
  rw [show (va_up V 0 (.int (z + 1))) 2 = .int (nI n) from h2]
  refine r_istore (i := 2) (by decide +kernel) (show 2 < 4 from by decide) ?_
  refine r_aload (i := 0) (by decide +kernel) rfl ?_
  refine r_iconst (i := 0) (x := 0) (by decide +kernel) rfl ?_
  refine r_dupx (by decide +kernel) rfl rfl ?_
  refine r_put (x := 48) 2 hg rfl (by decide) jf_48 (Or.inl rfl) trivial (by decide +kernel) hat ?_
  refine r_istore (i := 3) (by decide +kernel) (show 3 < 4 from by decide) ?_
  have hot2 : ∀ c, c ≠ a → (e_wr H1 a (e_O 0 (va_up (va_up V 0 (.int (z + 1))) 2 (.int 0)))).1 c = h.1 c := fun c hc => by rw [q_n hc]; exact hot c hc
  have hat2 : (e_wr H1 a (e_O 0 (va_up (va_up V 0 (.int (z + 1))) 2 (.int 0)))).1 a = some (e_O 0 (va_up (va_up V 0 (.int (z + 1))) 2 (.int 0))) := q_s
  have hsz2 : (e_wr H1 a (e_O 0 (va_up (va_up V 0 (.int (z + 1))) 2 (.int 0)))).2 = h.2 := hsz
  generalize e_wr H1 a (e_O 0 (va_up (va_up V 0 (.int (z + 1))) 2 (.int 0))) = H2 at hot2 hat2 hsz2 ⊢
  have fin : ∀ h3 : e_Hp, h3.2 = h.2 → h3.1 a = some (e_O 0 (va_up (va_up V 0 (.int (z + 1))) 2 (.int 0))) → (n = 0 ∧ (∀ c, c ≠ a → h3.1 c = h.1 c) ∨ ∃ f3, h3.1 b = some (e_R 4 cap f3) ∧ (∀ j, j < n → f3 j = none) ∧ (∀ j, n ≤ j → f3 j = f j) ∧ ∀ c, c ≠ a → c ≠ b → h3.1 c = h.1 c) → Ψ none h3 := fun h3 k1 k2 k3 => q h3 k1 ⟨_, z + 1, k2, rfl, rfl, rfl⟩ k3
  have loop : ∀ (k i : Nat) (H3 : e_Hp), i + k = n → H3.2 = h.2 → H3.1 a = some (e_O 0 (va_up (va_up V 0 (.int (z + 1))) 2 (.int 0))) → (n = 0 ∧ (∀ c, c ≠ a → H3.1 c = h.1 c) ∨ ∃ f3, H3.1 b = some (e_R 4 cap f3) ∧ (∀ j, j < i → f3 j = none) ∧ (∀ j, i ≤ j → f3 j = f j) ∧ ∀ c, c ≠ a → c ≠ b → H3.1 c = h.1 c) → j_Wm g jm_clr Ψ 27 [some (.ref a), some (.ref b), some (.int (nI n)), some (.int (nI i))] [] H3 := by
    intro k
    induction k with
    | zero =>
      intro i H3 e k1 k2 k3
      have e : i = n := e
      subst e
      refine r_iload (i := 3) (by decide +kernel) rfl ?_
      refine r_iload (i := 2) (by decide +kernel) rfl ?_
      refine r_ge (off := 13) 42 (by decide +kernel) (by decide) (fun _ => ?_) (fun c => absurd (nI_le (Nat.le_refl _) (by omega)) c)
      exact r_return (by decide +kernel) rfl (fin H3 k1 k2 k3)
    | succ k ih =>
      intro i H3 e k1 k2 k3
      obtain ⟨f3, f1, f2, f4, f5⟩ := k3.resolve_left (fun z => by omega)
      have hab : b ≠ a := fun e => by rw [e, k2] at f1; cases f1
      refine r_iload (i := 3) (by decide +kernel) rfl ?_
      refine r_iload (i := 2) (by decide +kernel) rfl ?_
      refine r_ge (off := 13) 42 (by decide +kernel) (by decide) (fun c => absurd c (nI_ge (by omega) (by omega))) (fun _ => ?_)
      refine r_aload (i := 1) (by decide +kernel) rfl ?_
      refine r_iload (i := 3) (by decide +kernel) rfl ?_
      refine r_null (by decide +kernel) ?_
      refine r_aastN hg (by decide +kernel) f1 (vp_in_nI (by omega) (by omega)) ?_
      refine r_iinc (i := 3) (z := 1) (by decide +kernel) rfl (nI_1 i) (show 3 < 4 from by decide) ?_
      refine r_goto (off := -12) 27 (by decide +kernel) (by decide) ?_
      refine ih (i + 1) _ (by omega) k1 (by rw [q_n (Ne.symm hab)]; exact k2) (Or.inr ⟨_, q_s, fun j hj => ?_, fun j hj => ?_, fun c c1 c2 => by rw [q_n c2]; exact f5 c c1 c2⟩)
      · rw [nI_clamp (by omega)]
        by_cases e : j = i
        · subst e; exact up_s
        · rw [up_n e]; exact f2 j (by omega)
      · rw [nI_clamp (by omega), up_n (by omega)]; exact f4 j (by omega)
  refine loop n 0 H2 (Nat.zero_add _) hsz2 hat2 ?_
  rcases hb with e | e
  · exact Or.inl ⟨e, hot2⟩
  · have hab : b ≠ a := fun e' => by rw [e', ha] at e; cases e
    exact Or.inr ⟨f, by rw [hot2 b hab]; exact e, fun j hj => by omega, fun j _ => rfl, fun c c1 _ => hot2 c c1⟩
theorem v_acin (q : Ψ none h) : j_Sc g jm_acin [.ref a] h Ψ := by
  refine j_run jo_acin (show 1 ≤ 1 from by decide) ?_
  refine r_aload (i := 0) (by decide +kernel) rfl ?_
  refine r_obj (x := 1) rfl jl_obj (by decide +kernel) (by decide) (by decide) (show 0 ≤ 8 from by decide) ?_
  exact r_return (by decide +kernel) rfl q
theorem v_alin (hg : e_GK g) (ha : h.1 a = some (e_O 0 V)) (q : Ψ none (e_wr h a (e_O 0 (va_up V 0 (.int 0))))) : j_Sc g jm_alin [.ref a] h Ψ := by
  refine j_run jo_alin (show 1 ≤ 1 from by decide) ?_
  refine r_aload (i := 0) (by decide +kernel) rfl ?_
  refine r_init (x := 1) (As := []) (st := []) jm_acin jo_acin rfl jl_acin jn_acin rfl rfl (show _ = some 0 from by decide +kernel) ⟨by decide, by decide⟩ (by decide +kernel) (show 0 ≤ 8 from by decide) (v_acin ?_)
  refine r_aload (i := 0) (by decide +kernel) rfl ?_
  refine r_iconst (i := 0) (x := 0) (by decide +kernel) rfl ?_
  refine r_put (x := 7) 0 hg rfl (by decide) jf_7 (Or.inl rfl) trivial (by decide +kernel) ha ?_
  exact r_return (by decide +kernel) rfl q
theorem v_init (hg : e_GK g) (ha : h.1 a = some (e_O 0 V)) (q : Ψ none (e_wr (e_wr h a (e_O 0 (va_up V 0 (.int 0)))) a (e_O 0 (va_up (va_up V 0 (.int 0)) 1 (.ref (g.2.2.2.2 0)))))) : j_Sc g jm_init [.ref a] h Ψ := by
  refine j_run jo_init (show 1 ≤ 1 from by decide) ?_
  refine r_aload (i := 0) (by decide +kernel) rfl ?_
  refine r_init (x := 1) (As := []) (st := []) jm_alin jo_alin rfl jl_alin jn_alin rfl rfl (show _ = some 0 from by decide +kernel) ⟨by decide, by decide⟩ (by decide +kernel) (show 0 ≤ 8 from by decide) (v_alin hg ha ?_)
  refine r_aload (i := 0) (by decide +kernel) rfl ?_
  refine r_gets (x := 39) hg rfl jf_39 (by decide +kernel) ?_
  refine r_put (x := 9) 1 hg rfl (by decide) jf_9 (Or.inl rfl) trivial (by decide +kernel) q_s ?_
  exact r_return (by decide +kernel) rfl q
end JD
