/-! what an act needs, both ways -/
section RX
variable {S S' : m_S} {A A' : m_A} {n t o k q c d : Nat} {w a : Int32} {f : Nat → Nat}
def anc (A : m_A) : Nat → Nat → Nat
  | o, 0 => o
  | o, j + 1 => anc A (A 5 o).toNatClampNeg j
theorem anc_ok (h : R_ob n A) : ∀ (d o : Nat), o < n → A 7 o = nI (d + 1) → d ≤ 5 → w_ch n A o d (anc A o) ∧ ∀ j, j ≤ d → anc A o j < n ∧ A 7 (anc A o j) = nI (d - j + 1)
  | 0, o, ho, hd, h5 => by
    obtain ⟨s, d', q1, q2, q3, q4, q5, q6⟩ := h.2 o ho
    have e : d' = 0 := by rw [hd] at q3; rw [i_eq (by omega) (by omega)] at q3; omega
    subst e
    have hp : A 5 o = -1 := by
      rcases q6 with q6 | ⟨q, q6, q7, q8, q9⟩
      · exact q6.1
      · obtain ⟨s', d', r1, r2, r3, _⟩ := h.2 q (by omega)
        rw [q9, i_eq (by omega) (by omega)] at r3
        omega
    refine ⟨⟨rfl, fun j hj => by rw [show j = 0 by omega]; exact ho, fun j hj => by omega, hp⟩, fun j hj => ?_⟩
    rw [show j = 0 by omega]
    exact ⟨ho, hd⟩
  | d + 1, o, ho, hd, h5 => by
    have n40 := h.1
    obtain ⟨s, d', q1, q2, q3, q4, q5, q6⟩ := h.2 o ho
    have e : d' = d + 1 := by rw [hd] at q3; rw [i_eq (by omega) (by omega)] at q3; omega
    subst e
    obtain ⟨p, p1, p2, p3, p4⟩ : ∃ p, p < o ∧ A 5 o = nI p ∧ A 4 p = 0 ∧ A 7 p = nI (d + 1) := by
      rcases q6 with q6 | q6
      · omega
      · exact q6
    obtain ⟨⟨c1, c2, c3, c4⟩, c5⟩ := anc_ok h d p (by omega) p4 (by omega)
    have es : ∀ j, anc A o (j + 1) = anc A p j := fun j => by rw [anc, p2, i_cl (by omega)]
    refine ⟨⟨rfl, fun j hj => ?_, fun j hj => ?_, ?_⟩, fun j hj => ?_⟩
    · cases j with
      | zero => exact ho
      | succ j => rw [es]; exact c2 j (by omega)
    · cases j with
      | zero => rw [es]; exact p2.trans (by rw [c1])
      | succ j => rw [es, es]; exact c3 j (by omega)
    · rw [es]; exact c4
    · cases j with
      | zero => exact ⟨ho, by rw [Nat.sub_zero]; exact hd⟩
      | succ j => rw [es, show d + 1 - (j + 1) + 1 = d - j + 1 by omega]; exact c5 j (by omega)
theorem dp_ok (h : R_ob n A) (ho : o < n) : A 7 o = nI (dp A o + 1) ∧ dp A o ≤ 5 := by
  obtain ⟨s, d', q1, q2, q3, q4, q5, q6⟩ := h.2 o ho
  have e : dp A o = d' := by unfold dp; rw [q3, i_cl (by omega)]; omega
  rw [e]
  exact ⟨q3, q4⟩
abbrev v_N : Type := Int32 × Int32 × Int32 × Int32
def nq (A : m_A) (q : Nat) : v_N := (A 88 q, A 89 q, A 90 q, A 91 q)
def fp_N : List Nat := [88, 89, 90, 91]
theorem nq_need {o w k a : Int32} : nq (y_need o w k a n S).2 q = if q = n then (o, w, k, a) else nq S.2 q := by
  unfold nq y_need
  dsimp only
  by_cases c : q = n
  · subst c; simp (decide := true) only [va_up, if_true, if_false]
  · simp (decide := true) only [va_up, if_true, if_false, c]
theorem need_A {g : Nat} {o w k a : Int32} (h : g ∉ fp_N) : (y_need o w k a n S).2 g = S.2 g := by
  unfold y_need
  dsimp only
  rw [up_n (nmem h (by decide)), up_n (nmem h (by decide)), up_n (nmem h (by decide)), up_n (nmem h (by decide))]
theorem need_F {g : Nat} {o w k a : Int32} (h : g ≠ 87) : (y_need o w k a n S).1 g = S.1 g := by unfold y_need; dsimp only; rw [up_n h]
theorem need_n {o w k a : Int32} : (y_need o w k a n S).1 87 = nI (n + 1) := by unfold y_need; dsimp only; rw [up_s]
theorem nq_np : ∀ (d c : Nat) (S : m_S), S.1 87 = nI c → (∀ q, nq (y_np f w d c S).2 q = if c ≤ q ∧ q < c + d then (nI (f (d - (q - c))), w, 0, 0) else nq S.2 q) ∧ (y_np f w d c S).1 87 = nI (c + d)
  | 0, c, S, e => ⟨fun q => by rw [y_np, if_neg (by omega)], e⟩
  | d + 1, c, S, e => by
    obtain ⟨h1, h2⟩ := nq_np d (c + 1) (y_need (nI (f (d + 1))) w 0 0 c S) need_n
    refine ⟨fun q => ?_, by rw [y_np, h2, show c + 1 + d = c + (d + 1) by omega]⟩
    rw [y_np, h1, nq_need]
    by_cases c1 : q = c
    · subst c1
      rw [if_neg (by omega), if_pos rfl, if_pos (by omega), Nat.sub_self, Nat.sub_zero]
    · by_cases c2 : c + 1 ≤ q ∧ q < c + 1 + d
      · rw [if_pos c2, if_pos (by omega), show d - (q - (c + 1)) = d + 1 - (q - c) by omega]
      · rw [if_neg c2, if_neg c1, if_neg (by omega)]
theorem np_A {g : Nat} (h : g ∉ fp_N) : ∀ (d c : Nat) (S : m_S), (y_np f w d c S).2 g = S.2 g
  | 0, _, _ => rfl
  | d + 1, c, S => by rw [y_np, np_A h d, need_A h]
theorem np_F {g : Nat} (h : g ≠ 87) : ∀ (d c : Nat) (S : m_S), (y_np f w d c S).1 g = S.1 g
  | 0, _, _ => rfl
  | d + 1, c, S => by rw [y_np, np_F h d, need_F h]
theorem na_A {g : Nat} {k a : Int32} (h : g ∉ fp_N) : (y_na f d o k a c S).2 g = S.2 g := by unfold y_na; rw [need_A h, np_A h]
theorem na_F {g : Nat} {k a : Int32} (h : g ≠ 87) : (y_na f d o k a c S).1 g = S.1 g := by unfold y_na; rw [need_F h, np_F h]
theorem na_q {k a : Int32} (e : S.1 87 = nI c) : (∀ q, nq (y_na f d o k a c S).2 q = if c ≤ q ∧ q < c + d then (nI (f (d - (q - c))), (if y_rd k a = true then 0 else 1), 0, 0) else if q = c + d then (nI o, y_lk k a, k, a) else nq S.2 q) ∧ (y_na f d o k a c S).1 87 = nI (c + d + 1) := by
  unfold y_na
  refine ⟨fun q => ?_, need_n⟩
  rw [nq_need, (nq_np d c S e).1]
  by_cases c1 : q = c + d
  · rw [if_pos c1, if_neg (by omega), if_pos c1]
  · rw [if_neg c1]
    by_cases c2 : c ≤ q ∧ q < c + d
    · rw [if_pos c2, if_pos c2]
    · rw [if_neg c2, if_neg c2, if_neg c1]
/-- the parts of an act's needs -/
def L_1 (A : m_A) (t : Nat) : Nat × Nat := if (A 68 t).toNatClampNeg = 19 then (if (A 67 t).toNatClampNeg < (A 70 t).toNatClampNeg then ((A 67 t).toNatClampNeg, 16) else ((A 70 t).toNatClampNeg, 15)) else ((A 67 t).toNatClampNeg, (A 68 t).toNatClampNeg)
def L_2 (A : m_A) (t : Nat) : Option (Nat × Nat) := if (A 68 t).toNatClampNeg = 19 then some (if (A 67 t).toNatClampNeg < (A 70 t).toNatClampNeg then ((A 70 t).toNatClampNeg, 15) else ((A 67 t).toNatClampNeg, 16)) else if (A 68 t).toNatClampNeg = 18 ∧ A 4 (A 67 t).toNatClampNeg = 7 ∧ ¬ A 9 (A 67 t).toNatClampNeg = -1 then some ((A 9 (A 67 t).toNatClampNeg).toNatClampNeg, 1) else none
def legAt (A : m_A) (x : Nat × Nat) (a : Int32) (j : Nat) : v_N := if j < dp A x.1 then (nI (anc A x.1 (dp A x.1 - j)), (if y_rd (nI x.2) a = true then 0 else 1), 0, 0) else (nI x.1, y_lk (nI x.2) a, nI x.2, a)
def needAt (A : m_A) (t q : Nat) : Option v_N := if q ≤ dp A (L_1 A t).1 then some (legAt A (L_1 A t) (A 69 t) q) else match L_2 A t with
  | none => none
  | some y => if q - (dp A (L_1 A t).1 + 1) ≤ dp A y.1 then some (legAt A y (A 69 t) (q - (dp A (L_1 A t).1 + 1))) else none
/-- what an ask may be -/
def askOk (n : Nat) (A : m_A) (t : Nat) : Prop := ∃ o k, A 67 t = nI o ∧ o < n ∧ A 68 t = nI k ∧ k < 22 ∧ ar_R n o k (A 69 t) (A 70 t) ∧ (A 4 o = 7 → A 9 o = -1 ∨ ∃ p, p < n ∧ A 9 o = nI p)
theorem ns_A {g t o k b : Nat} {df : Nat → Nat} {fs : Nat → Nat → Nat} (h : g ∉ fp_N) : (y_nsO df fs t o k b a S).2 g = S.2 g := by
  unfold y_nsO
  dsimp only
  split
  · split
    · rw [na_A h, na_A h]
    · rw [na_A h, na_A h]
  · split
    · rw [na_A h, na_A h]
    · rw [na_A h]
theorem ns_F {g t o k b : Nat} {df : Nat → Nat} {fs : Nat → Nat → Nat} (h : g ≠ 87) : (y_nsO df fs t o k b a S).1 g = S.1 g := by
  unfold y_nsO
  dsimp only
  split
  · split
    · rw [na_F h, na_F h]; exact up_n h
    · rw [na_F h, na_F h]; exact up_n h
  · split
    · rw [na_F h, na_F h]; exact up_n h
    · rw [na_F h]; exact up_n h
theorem legs_q {d1 d2 o1 o2 : Nat} {f1 f2 : Nat → Nat} {k1 k2 a : Int32} {S0 : m_S} (e : S0.1 87 = 0) : ∀ q, nq (y_na f2 d2 o2 k2 a (d1 + 1) (y_na f1 d1 o1 k1 a 0 S0)).2 q = if q ≤ d1 then (if q < d1 then (nI (f1 (d1 - q)), (if y_rd k1 a = true then 0 else 1), 0, 0) else (nI o1, y_lk k1 a, k1, a)) else if q - (d1 + 1) ≤ d2 then (if q - (d1 + 1) < d2 then (nI (f2 (d2 - (q - (d1 + 1)))), (if y_rd k2 a = true then 0 else 1), 0, 0) else (nI o2, y_lk k2 a, k2, a)) else nq S0.2 q := fun q => by
  have h1 := na_q (f := f1) (d := d1) (o := o1) (k := k1) (a := a) (c := 0) (S := S0) e
  have h2 := na_q (f := f2) (d := d2) (o := o2) (k := k2) (a := a) (c := d1 + 1) (S := y_na f1 d1 o1 k1 a 0 S0) (by rw [h1.2, Nat.zero_add])
  rw [h2.1, h1.1]
  by_cases c1 : q ≤ d1
  · rw [if_pos c1, if_neg (by omega), if_neg (by omega)]
    by_cases c2 : q < d1
    · rw [if_pos (by omega), if_pos c2, Nat.sub_zero]
    · rw [if_neg (by omega), if_pos (by omega), if_neg c2]
  · rw [if_neg c1]
    by_cases c2 : q - (d1 + 1) ≤ d2
    · rw [if_pos c2]
      by_cases c3 : q - (d1 + 1) < d2
      · rw [if_pos (by omega), if_pos c3]
      · rw [if_neg (by omega), if_pos (by omega), if_neg c3]
    · rw [if_neg c2, if_neg (by omega), if_neg (by omega), if_neg (by omega), if_neg (by omega)]
theorem leg_q {d1 o1 : Nat} {f1 : Nat → Nat} {k1 a : Int32} {S0 : m_S} (e : S0.1 87 = 0) : ∀ q, q ≤ d1 → nq (y_na f1 d1 o1 k1 a 0 S0).2 q = (if q < d1 then (nI (f1 (d1 - q)), (if y_rd k1 a = true then 0 else 1), 0, 0) else (nI o1, y_lk k1 a, k1, a)) := fun q hq => by
  have h1 := na_q (f := f1) (d := d1) (o := o1) (k := k1) (a := a) (c := 0) (S := S0) e
  rw [h1.1]
  by_cases c2 : q < d1
  · rw [if_pos (by omega), if_pos c2, Nat.sub_zero]
  · rw [if_neg (by omega), if_pos (by omega), if_neg c2]
/-- the needs as the reference reckons them -/
theorem ns_ok (hob : R_ob n S.2) (hk : askOk n S.2 t) (eq : S.2 71 t = nI q) (hq : q ≤ 100) : ∃ S', r_needs t S S' ∧ (∀ g, g ∉ fp_N → S'.2 g = S.2 g) ∧ (∀ g, g ≠ 87 → S'.1 g = S.1 g) ∧ ∃ c, c ≤ 12 ∧ S'.1 87 = nI c ∧ (∀ v, needAt S.2 t q = some v → q < c ∧ nq S'.2 q = v) ∧ (needAt S.2 t q = none → c ≤ q) := by
  obtain ⟨o, k, e1, ho, e2, hk2, har, hsl⟩ := hk
  have n40 := hob.1
  have co : (S.2 67 t).toNatClampNeg = o := by rw [e1, i_cl (by omega)]
  have ck : (S.2 68 t).toNatClampNeg = k := by rw [e2, i_cl (by omega)]
  have hch : ∀ x, x < n → dp S.2 x ≤ 5 ∧ w_ch n S.2 x (dp S.2 x) (anc S.2 x) := fun x hx => ⟨(dp_ok hob hx).2, (anc_ok hob _ x hx (dp_ok hob hx).1 (dp_ok hob hx).2).1⟩
  have hb : ∃ b, (k = 19 → b < n ∧ S.2 70 t = nI b ∧ b ≠ o) := by
    by_cases c : k = 19
    · obtain ⟨q, q1, q2, q3⟩ := har.2.2.2.2 c
      exact ⟨q, fun _ => ⟨q1, q3, q2⟩⟩
    · exact ⟨0, fun z => absurd z c⟩
  obtain ⟨b, hb⟩ := hb
  refine ⟨y_nsO (dp S.2) (anc S.2) t o k b (S.2 69 t) S, ⟨o, k, b, n, dp S.2, anc S.2, hk2, n40, ho, hch, e1, e2, fun z => ⟨(hb z).1, (hb z).2.1⟩, fun _ s7 hne => ?_, rfl⟩, fun g hg => ns_A hg, fun g hg => ns_F hg, ?_⟩
  · rcases hsl s7 with z | z
    · exact absurd z hne
    · exact z
  · have z0 : ((va_up S.1 87 0, S.2) : m_S).1 87 = 0 := by dsimp only; rw [up_s]
    have n1 : ∀ {d1 o1 : Nat} {f1 : Nat → Nat} {k1 a : Int32}, (y_na f1 d1 o1 k1 a 0 (va_up S.1 87 0, S.2)).1 87 = nI (d1 + 1) := by
      intro d1 o1 f1 k1 a
      rw [(na_q (c := 0) z0).2, Nat.zero_add]
    have n2 : ∀ {d1 d2 o1 o2 : Nat} {f1 f2 : Nat → Nat} {k1 k2 a : Int32}, (y_na f2 d2 o2 k2 a (d1 + 1) (y_na f1 d1 o1 k1 a 0 (va_up S.1 87 0, S.2))).1 87 = nI (d1 + 1 + d2 + 1) := by
      intro d1 d2 o1 o2 f1 f2 k1 k2 a
      rw [(na_q (c := d1 + 1) n1).2]
    by_cases c19 : k = 19
    · obtain ⟨b1, b2, b3⟩ := hb c19
      have cb : (S.2 70 t).toNatClampNeg = b := by rw [b2, i_cl (by omega)]
      have h1 := (dp_ok hob ho).2
      have h2 := (dp_ok hob b1).2
      unfold y_nsO needAt L_1 L_2 legAt
      dsimp only
      rw [co, ck, cb, if_pos c19, if_pos c19, if_pos c19]
      by_cases cl : o < b
      · rw [if_pos cl, if_pos cl, if_pos cl]
        refine ⟨dp S.2 o + 1 + dp S.2 b + 1, by omega, n2, fun v hv => ?_, fun hv => ?_⟩
        · rw [legs_q z0]
          by_cases c1 : q ≤ dp S.2 o
          · rw [if_pos c1] at hv ⊢; cases hv; exact ⟨by omega, rfl⟩
          · rw [if_neg c1] at hv ⊢
            dsimp only at hv
            by_cases c2 : q - (dp S.2 o + 1) ≤ dp S.2 b
            · rw [if_pos c2] at hv ⊢; cases hv; exact ⟨by omega, rfl⟩
            · rw [if_neg c2] at hv; cases hv
        · by_cases c1 : q ≤ dp S.2 o
          · rw [if_pos c1] at hv; cases hv
          · rw [if_neg c1] at hv
            dsimp only at hv
            by_cases c2 : q - (dp S.2 o + 1) ≤ dp S.2 b
            · rw [if_pos c2] at hv; cases hv
            · omega
      · rw [if_neg cl, if_neg cl, if_neg cl]
        refine ⟨dp S.2 b + 1 + dp S.2 o + 1, by omega, n2, fun v hv => ?_, fun hv => ?_⟩
        · rw [legs_q z0]
          by_cases c1 : q ≤ dp S.2 b
          · rw [if_pos c1] at hv ⊢; cases hv; exact ⟨by omega, rfl⟩
          · rw [if_neg c1] at hv ⊢
            dsimp only at hv
            by_cases c2 : q - (dp S.2 b + 1) ≤ dp S.2 o
            · rw [if_pos c2] at hv ⊢; cases hv; exact ⟨by omega, rfl⟩
            · rw [if_neg c2] at hv; cases hv
        · by_cases c1 : q ≤ dp S.2 b
          · rw [if_pos c1] at hv; cases hv
          · rw [if_neg c1] at hv
            dsimp only at hv
            by_cases c2 : q - (dp S.2 b + 1) ≤ dp S.2 o
            · rw [if_pos c2] at hv; cases hv
            · omega
    · have h1 := (dp_ok hob ho).2
      unfold y_nsO needAt L_1 L_2 legAt
      dsimp only
      rw [co, ck, if_neg c19, if_neg c19, if_neg c19]
      dsimp only
      by_cases c18 : k = 18 ∧ S.2 4 o = 7 ∧ ¬ S.2 9 o = -1
      · obtain ⟨p, p1, p2⟩ : ∃ p, p < n ∧ S.2 9 o = nI p := by
          rcases hsl c18.2.1 with z | z
          · exact absurd z c18.2.2
          · exact z
        have h2 := (dp_ok hob p1).2
        rw [if_pos c18]
        dsimp only
        rw [p2, i_cl (by omega)]
        by_cases cs : q ≤ dp S.2 o
        · rw [if_neg (fun z => by
            have := z.2.2.2
            rw [eq, i_le (by omega) (by omega)] at this
            omega), if_pos cs]
          refine ⟨dp S.2 o + 1, by omega, n1, fun v hv => ?_, fun hv => by cases hv⟩
          cases hv
          exact ⟨by omega, leg_q z0 q cs⟩
        · rw [if_pos ⟨c18.1, c18.2.1, by rw [← p2]; exact c18.2.2, by rw [eq, i_le (by omega) (by omega)]; omega⟩, if_neg cs]
          refine ⟨dp S.2 o + 1 + dp S.2 p + 1, by omega, n2, fun v hv => ?_, fun hv => ?_⟩
          · rw [legs_q z0, if_neg cs]
            by_cases c2 : q - (dp S.2 o + 1) ≤ dp S.2 p
            · rw [if_pos c2] at hv ⊢; cases hv; exact ⟨by omega, rfl⟩
            · rw [if_neg c2] at hv; cases hv
          · by_cases c2 : q - (dp S.2 o + 1) ≤ dp S.2 p
            · rw [if_pos c2] at hv; cases hv
            · omega
      · rw [if_neg c18]
        rw [if_neg (fun z => c18 ⟨z.1, z.2.1, z.2.2.1⟩)]
        dsimp only
        refine ⟨dp S.2 o + 1, by omega, n1, fun v hv => ?_, fun hv => ?_⟩
        · by_cases cs : q ≤ dp S.2 o
          · rw [if_pos cs] at hv; cases hv; exact ⟨by omega, leg_q z0 q cs⟩
          · rw [if_neg cs] at hv; cases hv
        · by_cases cs : q ≤ dp S.2 o
          · rw [if_pos cs] at hv; cases hv
          · omega
end RX
