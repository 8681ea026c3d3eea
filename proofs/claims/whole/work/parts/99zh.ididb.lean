/-! doIt: it was done -/
section TK
variable {S S' : m_S} {A : m_A} {n b l nl nw nr na ne t o k c T q : Nat} {ch : Nat → List Nat}
/-- the arrays ahead of the new row -/
def A_d (t o k i n : Nat) (bb ans : Int32) (S : m_S) : m_A :=
  va_up (va_up (va_up (va_up (va_up (va_up (va_up (va_up (va_up (va_up (va_up (va_up (va_up (va_up S.2 79 (y_unf t n (S.2 73) (S.2 79)))
       34 (va_up (S.2 34) i (nI t))) 35 (va_up (S.2 35) i (nI o))) 36 (va_up (S.2 36) i (nI k))) 37 (va_up (S.2 37) i (S.2 69 t))) 38 (va_up (S.2 38) i bb)) 39 (va_up (S.2 39) i ans)) 40 (va_up (S.2 40) i (S.1 28))) 41 (va_up (S.2 41) i (S.1 27))) 42 (va_up (S.2 42) i (S.1 13))) 43 (va_up (S.2 43) i (S.2 53 t))) 53 (va_up (S.2 53) t (nI i))) 52 (va_up (S.2 52) t (S.2 52 t + 1))) 56 (va_up (S.2 56) t ans)
theorem did_eq {i n : Nat} {ans : Int32} : y_did t o k i n ans S = y_put 2 (nI t) (nI o) (nI k) (S.2 69 t) (if k = 18 then S.1 26 else S.2 70 t) ans (-1) (va_up (va_up S.1 33 (nI (i + 1))) 64 (S.1 64 + 1), A_d t o k i n (if k = 18 then S.1 26 else S.2 70 t) ans S) := rfl
theorem ad_n {i n : Nat} {bb ans : Int32} {f : Nat} (h : f ∉ [79, 34, 35, 36, 37, 38, 39, 40, 41, 42, 43, 53, 52, 56]) : A_d t o k i n bb ans S f = S.2 f := by
  unfold A_d
  rw [up_n (nmem h (by decide)), up_n (nmem h (by decide)), up_n (nmem h (by decide)), up_n (nmem h (by decide)), up_n (nmem h (by decide)), up_n (nmem h (by decide)), up_n (nmem h (by decide)), up_n (nmem h (by decide)), up_n (nmem h (by decide)), up_n (nmem h (by decide)), up_n (nmem h (by decide)), up_n (nmem h (by decide)), up_n (nmem h (by decide)), up_n (nmem h (by decide))]
theorem ad_s {i n : Nat} {bb ans : Int32} : A_d t o k i n bb ans S 79 = y_unf t n (S.2 73) (S.2 79) ∧ A_d t o k i n bb ans S 35 = va_up (S.2 35) i (nI o) ∧ A_d t o k i n bb ans S 36 = va_up (S.2 36) i (nI k) ∧ A_d t o k i n bb ans S 37 = va_up (S.2 37) i (S.2 69 t) ∧ A_d t o k i n bb ans S 38 = va_up (S.2 38) i bb ∧ A_d t o k i n bb ans S 39 = va_up (S.2 39) i ans ∧ A_d t o k i n bb ans S 40 = va_up (S.2 40) i (S.1 28) ∧ A_d t o k i n bb ans S 41 = va_up (S.2 41) i (S.1 27) ∧ A_d t o k i n bb ans S 42 = va_up (S.2 42) i (S.1 13) ∧ A_d t o k i n bb ans S 43 = va_up (S.2 43) i (S.2 53 t) ∧ A_d t o k i n bb ans S 53 = va_up (S.2 53) t (nI i) ∧ A_d t o k i n bb ans S 52 = va_up (S.2 52) t (S.2 52 t + 1) ∧ A_d t o k i n bb ans S 56 = va_up (S.2 56) t ans := by
  unfold A_d
  simp (decide := true) only [up_n, up_s, and_self]
/-- what an act that was done leaves -/
def D_d (nl nr na : Nat) (t o k : Nat) (S S' : m_S) : Prop :=
  (∀ f, f ∉ fp_R → f ∉ [79, 34, 35, 36, 37, 38, 39, 40, 41, 42, 43, 53, 52, 56] → S'.2 f = (S_1 o k t S).2 f) ∧ (∀ f, f ≠ 33 → f ≠ 64 → f ≠ 13 → S'.1 f = (S_1 o k t S).1 f) ∧ S'.1 33 = nI (na + 1) ∧ S'.1 64 = S.1 64 + 1 ∧ S'.1 13 = nI (nr + 1) ∧
  rowAt S'.2 nr 2 (nI t) (nI o) (nI k) (S.2 69 t) (if k = 18 then (Wk o k t S).2.1 26 else S.2 70 t) (Wk o k t S).1 (-1) ∧ rw_eq nr S.2 S'.2 ∧ acp na S.2 S'.2 ∧
  (S'.2 42 na = nI nr ∧ S'.2 35 na = nI o ∧ S'.2 36 na = nI k ∧ S'.2 37 na = S.2 69 t ∧ S'.2 38 na = (if k = 18 then (Wk o k t S).2.1 26 else S.2 70 t) ∧ S'.2 39 na = (Wk o k t S).1 ∧ S'.2 41 na = (Wk o k t S).2.1 27 ∧ S'.2 43 na = S.2 53 t) ∧ S'.2 40 na = (Wk o k t S).2.1 28 ∧
  S'.2 53 = va_up (S.2 53) t (nI na) ∧ S'.2 52 = va_up (S.2 52) t (S.2 52 t + 1) ∧ S'.2 56 = va_up (S.2 56) t (Wk o k t S).1 ∧ v_L nl S'.2 = ((v_L nl S.2).filter (kp false t)).map (uf t)
theorem did_ok (hr : S.1 13 = nI nr) (hn : nr ≤ 6000) (hf : (Wk o k t S).2.1 25 = 0) : D_d nl nr na t o k S (y_doIt t o k na nl S) := by
  rw [doIt_d hf, did_eq]
  have bm : (S_1 o k t S).1 26 = (Wk o k t S).2.1 26 := by unfold S_1; dsimp only; rw [up_n (by decide)]
  have ea : (S_1 o k t S).2 69 = S.2 69 := s1_A (by decide)
  have eb : (S_1 o k t S).2 70 = S.2 70 := s1_A (by decide)
  rw [bm, ea, eb]
  generalize hbb : (if k = 18 then (Wk o k t S).2.1 26 else S.2 70 t) = bb
  obtain ⟨d1, d2, d3, d4, d5, d6, d7, d8, d9, d10, d11, d12, d13⟩ := ad_s (t := t) (o := o) (k := k) (i := na) (n := nl) (bb := bb) (ans := (Wk o k t S).1) (S := S_1 o k t S)
  have er : (va_up (va_up (S_1 o k t S).1 33 (nI (na + 1))) 64 ((S_1 o k t S).1 64 + 1)) 13 = nI nr := by rw [up_n (by decide), up_n (by decide), s1_F (by decide)]; exact hr
  have erow := yput_row (S := (va_up (va_up (S_1 o k t S).1 33 (nI (na + 1))) 64 ((S_1 o k t S).1 64 + 1), A_d t o k na nl bb (Wk o k t S).1 (S_1 o k t S))) (nr := nr) er hn (w := 2) (t := nI t) (o := nI o) (k := nI k) (a := S.2 69 t) (b := bb) (c := (Wk o k t S).1) (u := -1)
  have fA : ∀ f, f ∉ fp_R → (y_put 2 (nI t) (nI o) (nI k) (S.2 69 t) bb (Wk o k t S).1 (-1) (va_up (va_up (S_1 o k t S).1 33 (nI (na + 1))) 64 ((S_1 o k t S).1 64 + 1), A_d t o k na nl bb (Wk o k t S).1 (S_1 o k t S))).2 f = A_d t o k na nl bb (Wk o k t S).1 (S_1 o k t S) f := fun f h => yput_A h
  have fF : ∀ f, f ≠ 13 → (y_put 2 (nI t) (nI o) (nI k) (S.2 69 t) bb (Wk o k t S).1 (-1) (va_up (va_up (S_1 o k t S).1 33 (nI (na + 1))) 64 ((S_1 o k t S).1 64 + 1), A_d t o k na nl bb (Wk o k t S).1 (S_1 o k t S))).1 f = (va_up (va_up (S_1 o k t S).1 33 (nI (na + 1))) 64 ((S_1 o k t S).1 64 + 1)) f := fun f h => yput_F h
  have fR := yput_r (S := (va_up (va_up (S_1 o k t S).1 33 (nI (na + 1))) 64 ((S_1 o k t S).1 64 + 1), A_d t o k na nl bb (Wk o k t S).1 (S_1 o k t S))) (nr := nr) er (w := 2) (u := nI t) (o := nI o) (kk := nI k) (a := S.2 69 t) (b := bb) (c := (Wk o k t S).1) (d := -1)
  generalize y_put 2 (nI t) (nI o) (nI k) (S.2 69 t) bb (Wk o k t S).1 (-1) (va_up (va_up (S_1 o k t S).1 33 (nI (na + 1))) 64 ((S_1 o k t S).1 64 + 1), A_d t o k na nl bb (Wk o k t S).1 (S_1 o k t S)) = S' at *
  dsimp only at erow
  have sA : ∀ f, f ∉ [31, 9, 10, 11, 12, 57] → (S_1 o k t S).2 f = S.2 f := fun f h => s1_A h
  unfold D_d
  rw [hbb]
  refine ⟨fun f h1 h2 => by rw [fA f h1, ad_n h2], fun f h1 h2 h3 => by rw [fF f h3, up_n h2, up_n h1], by rw [fF _ (by decide), up_n (by decide), up_s], by rw [fF _ (by decide), up_s, s1_F (by decide)], fR, erow.1, fun j hj => ?_, fun j hj => ?_, ⟨by rw [fA _ (by decide), d9, up_s, s1_F (by decide)]; exact hr, by rw [fA _ (by decide), d2, up_s], by rw [fA _ (by decide), d3, up_s], by rw [fA _ (by decide), d4, up_s, ea], by rw [fA _ (by decide), d5, up_s], by rw [fA _ (by decide), d6, up_s], ?_, by rw [fA _ (by decide), d10, up_s, sA _ (by decide)]⟩, ?_, by rw [fA _ (by decide), d11, sA _ (by decide)], by rw [fA _ (by decide), d12, sA _ (by decide)], by rw [fA _ (by decide), d13, sA _ (by decide)], ?_⟩
  · have := erow.2 j (by omega)
    rw [ad_n (by decide), ad_n (by decide), ad_n (by decide), ad_n (by decide), ad_n (by decide), ad_n (by decide), ad_n (by decide), ad_n (by decide), sA _ (by decide), sA _ (by decide), sA _ (by decide), sA _ (by decide), sA _ (by decide), sA _ (by decide), sA _ (by decide), sA _ (by decide)] at this
    exact this
  · have ne : j ≠ na := by omega
    rw [fA _ (by decide), fA _ (by decide), fA _ (by decide), fA _ (by decide), fA _ (by decide), fA _ (by decide), fA _ (by decide), fA _ (by decide), fA _ (by decide), d2, d3, d4, d5, d6, d7, d8, d9, d10, up_n ne, up_n ne, up_n ne, up_n ne, up_n ne, up_n ne, up_n ne, up_n ne, up_n ne, sA _ (by decide), sA _ (by decide), sA _ (by decide), sA _ (by decide), sA _ (by decide), sA _ (by decide), sA _ (by decide), sA _ (by decide), sA _ (by decide)]
    exact ⟨rfl, rfl, rfl, rfl, rfl, rfl, rfl, rfl, rfl⟩
  · rw [fA _ (by decide), d8, up_s]
    unfold S_1; dsimp only; rw [up_n (by decide)]
  · rw [fA _ (by decide), d7, up_s]
    unfold S_1; dsimp only; rw [up_n (by decide)]
  · have e1 : (v_L nl S.2).filter (kp false t) = v_L nl S.2 := List.filter_eq_self.mpr (fun x _ => by unfold kp; rw [Bool.false_and, Bool.false_and]; rfl)
    rw [e1]
    unfold v_L
    rw [List.map_map]
    refine List.map_congr_left (fun j hj => ?_)
    have hj := List.mem_range.mp hj
    show v_k S'.2 j = uf t (v_k S.2 j)
    have ee : v_k S'.2 j = (S.2 73 j, S.2 74 j, S.2 75 j, S.2 76 j, S.2 77 j, S.2 78 j, if S.2 73 j = nI t then 0 else S.2 79 j) := by
      unfold v_k
      rw [fA _ (by decide), fA _ (by decide), fA _ (by decide), fA _ (by decide), fA _ (by decide), fA _ (by decide), fA _ (by decide), ad_n (by decide), ad_n (by decide), ad_n (by decide), ad_n (by decide), ad_n (by decide), ad_n (by decide), d1, sA _ (by decide), sA _ (by decide), sA _ (by decide), sA _ (by decide), sA _ (by decide), sA _ (by decide), sA _ (by decide)]
      unfold y_unf
      by_cases c : S.2 73 j = nI t
      · rw [if_pos ⟨hj, c⟩, if_pos c]
      · rw [if_neg (fun z => c z.2), if_neg c]
    rw [ee]
    unfold uf
    by_cases c : S.2 73 j = nI t
    · rw [if_pos c, if_pos (show (v_k S.2 j).1 = nI t from c)]
      rfl
    · rw [if_neg c, if_neg (show ¬ (v_k S.2 j).1 = nI t from c)]
      rfl
/-- the lock of the act keeps the others away -/
theorem keep_off (hI : I_all n b l nl nw nr na ne ch t c T S) (h1 : 1 ≤ t) (hk : k < 22) (ho : o < n) (hh : y_has (S.2 4 o) (nI k) = true) (hl : k < 18 → ∃ x ∈ v_L nl S.2, x.1 = nI t ∧ x.2.1 = nI o ∧ x.2.2.1 = 4 ∧ x.2.2.2.1 = nI k ∧ x.2.2.2.2.1 = S.2 69 t) :
    ∀ u, 1 ≤ u → u ≤ b → undw S.2 u → u ≠ t → ∀ j ∈ ch u, S.2 35 j = nI o → ((k = 8 ∨ k = 9) → ¬ (S.2 36 j = 8 ∨ S.2 36 j = 9)) ∧ ((k = 12 ∨ k = 13) → (S.2 36 j = 12 ∨ S.2 36 j = 13) → ¬ S.2 37 j = S.2 69 t) := fun u u1 u2 hu hne j hj ej => by
  obtain ⟨hL, hD, hE, hK, hV, hM, hP, hX⟩ := hI
  obtain ⟨tm, t2, st⟩ := lv_mem hD h1
  have b400 := hD.1
  have n40 := hL.2.2.1.1
  obtain ⟨p, hp⟩ := List.mem_iff_getElem?.mp (List.mem_reverse.mpr hj)
  have une : ¬ nI u = nI t := fun e => hne (by rw [i_eq (by omega) (by omega)] at e; exact e)
  have cf : ∀ x ∈ v_L nl S.2, x.1 = nI u → x.2.1 = S.2 35 j → x.2.2.1 = 4 → ∀ y ∈ v_L nl S.2, y.1 = nI t → y.2.1 = nI o → y.2.2.1 = 4 → y_cf (S.2 4 o) 4 y.2.2.2.1 y.2.2.2.2.1 4 x.2.2.2.1 x.2.2.2.2.1 = false := fun x hx x1 x2 x3 y hy y1 y2 y3 => by
    have := hK.2.2.2.2.2.2.2.2.1 y hy x hx (by rw [y2, x2, ej]) (by rw [y1, x1]; exact fun e => une e.symm)
    rw [y2, i_cl (by omega), y3, x3] at this
    exact this
  refine ⟨fun ck z => ?_, fun ck z ea => ?_⟩
  · obtain ⟨x, x1, x2, x3, x4, x5, x6, _⟩ := hK.2.2.2.2.2.2.2.2.2.2.2.2 u u1 u2 hu p j hp (by rcases z with z | z; exact Or.inl z; exact Or.inr (Or.inl z))
    obtain ⟨y, y1, y2, y3, y4, y5, y6⟩ := hl (by omega)
    have := cf x x1 x2 x3 x4 y y1 y2 y3 y4
    have s4 : S.2 4 o = 4 := by
      rcases ck with rfl | rfl
      · rw [show nI 8 = 8 from rfl, yh_8] at hh; simpa using hh
      · rw [show nI 9 = 9 from rfl, yh_9] at hh; simpa using hh
    rw [s4, cf_q (by rw [y5]; rcases ck with rfl | rfl; exact Or.inl rfl; exact Or.inr rfl) (by rw [x5]; exact z)] at this
    cases this
  · obtain ⟨x, x1, x2, x3, x4, x5, x6, _⟩ := hK.2.2.2.2.2.2.2.2.2.2.2.2 u u1 u2 hu p j hp (by rcases z with z | z; exact Or.inr (Or.inr (Or.inl z)); exact Or.inr (Or.inr (Or.inr z)))
    obtain ⟨y, y1, y2, y3, y4, y5, y6⟩ := hl (by omega)
    have := cf x x1 x2 x3 x4 y y1 y2 y3 y4
    have s5 : S.2 4 o = 5 := by
      rcases ck with rfl | rfl
      · rw [show nI 12 = 12 from rfl, yh_12] at hh; simpa using hh
      · rw [show nI 13 = 13 from rfl, yh_13] at hh; simpa using hh
    rw [s5, y6, x6, ea, cf_m (by rw [y5]; rcases ck with rfl | rfl; exact Or.inl rfl; exact Or.inr rfl) (by rw [x5]; exact z)] at this
    cases this
theorem I_did (hI : I_all n b l nl nw nr na ne ch t c T S) (hak : askOk n S.2 t) (h1 : 1 ≤ t) (eo : S.2 67 t = nI o) (ho : o < n) (ek : S.2 68 t = nI k) (hk : k < 22) (har : ar_R n o k (S.2 69 t) (S.2 70 t)) (hl : k < 18 → ∃ x ∈ v_L nl S.2, x.1 = nI t ∧ x.2.1 = nI o ∧ x.2.2.1 = 4 ∧ x.2.2.2.1 = nI k ∧ x.2.2.2.2.1 = S.2 69 t)
    (hf : (Wk o k t S).2.1 25 = 0) (tr : ∃ q, q ≤ 16 ∧ (Wk o k t S).2.1 30 = nI q) (h317 : k = 3 ∨ k = 17 → (Wk o k t S).1 = (Wk o k t S).2.1 28) (h18 : k = 18 → ∃ q, q < n ∧ S.2 9 o = nI q ∧ (Wk o k t S).2.1 26 = nI q) :
    I_all n b l nl nw (nr + 1) (na + 1) ne (up1 ch t (na :: ch t)) 0 c (T + 1) (y_doIt t o k na nl S) ∧ D_d nl nr na t o k S (y_doIt t o k na nl S) := by
  have hI0 := hI
  obtain ⟨hL, hD, hE, hK, hV, hM, hP, hX⟩ := hI
  obtain ⟨tm, t2, st⟩ := lv_mem hD h1
  have n40 := hL.2.2.1.1
  have nrl : nr ≤ 1024 := by have := hP.1; have := hP.2.1; have := hP.2.2.1; omega
  have hu : undw S.2 t := Or.inl st
  have hch := hL.2.2.2.2.2.2.1 t h1 t2 (Or.inl hu)
  have hD' := did_ok (nl := nl) (na := na) hL.1 (by omega) hf
  refine ⟨?_, hD'⟩
  generalize y_doIt t o k na nl S = S' at *
  obtain ⟨fA, fF, c1, c2, c3, c4, c5, c6, c7, c8, c9, d1, d2, vL⟩ := hD'
  have w := wk_do (o := o) (t := t) (S := S) hk
  have w0 := w
  unfold wk_R at w0
  dsimp only at w0
  obtain ⟨w1, w2, w3, w4, w5, w6, w7⟩ := w0
  have ys : y_sort (y_di0 S).1 S.2 o = S.2 4 o := by unfold y_sort; rw [if_neg (by omega), Nat.mod_eq_of_lt (by omega)]
  have hh : y_has (S.2 4 o) (nI k) = true := by rw [← ys]; exact w2 hf
  have same : ∀ f, f ∉ fp_c → S'.2 f = S.2 f := fun f h => by
    rw [fA f (nm_f h).2.2 (fun z => h ?_), s1_A (nm_f h).1]
    have : ∀ f ∈ [79, 34, 35, 36, 37, 38, 39, 40, 41, 42, 43, 53, 52, 56], f ∈ fp_c := by decide
    exact this f z
  have naL : na < 512 := by
    have q2 := hP.2.2.2.1
    have nd := pw_nd hD.2.2.2.2.2.2.2.1
    have q3 := sum_up (t := t) (f := fun u => if S.2 47 u = 2 ∨ u = t then 1 else 0) (g := fun u => if u = t then 0 else (if S.2 47 u = 2 ∨ u = t then 1 else 0)) nd tm (fun u _ e => if_neg e)
    rw [if_pos rfl, if_pos (Or.inr rfl)] at q3
    have := hP.2.2.1
    omega
  obtain ⟨o', k', y1, y2, y3, y4, y5, y6⟩ := hak
  have oo : o' = o := by rw [eo, i_eq (by omega) (by omega)] at y1; exact y1.symm
  subst oo
  have lg : I_lg n b (nr + 1) (na + 1) (up1 ch t (na :: ch t)) S' := by
    refine hL.did (W := Wk o' k t S) h1 t2 hu ho hk w hf (by omega) naL c3 c5 c4 c1 c6 c7 (fun z => by rw [c8]; exact h317 z) c9 d1 ?_ ?_ (fun f hf => same f (by revert f; decide)) (had_do hk) hh ?_ (fun z => ?_) (fun z => ?_) (fun z => ?_) (keep_off hI0 h1 hk ho hh hl)
    · rw [fA _ (by decide) (by decide)]; unfold S_1; dsimp only; rw [up_n (by decide)]
    · rw [fA _ (by decide) (by decide)]; unfold S_1; dsimp only; rw [up_n (by decide)]
    · obtain ⟨r1, r2, r3, r4, r5⟩ := har
      exact ⟨r1, r2, r3, r4, fun z => by rw [if_neg (by omega)]; exact r5 z⟩
    · rw [w3 z hf]
      subst z
      have s7 : S.2 4 o' = 7 := by rw [show nI 17 = 17 from rfl, yh_17] at hh; simpa using hh
      exact y6 s7
    · obtain ⟨q, q1, q2, q3⟩ := h18 z
      refine ⟨q, q1, by rw [if_pos z]; exact q3, ?_⟩
      have := w4 z hf
      rw [q2, i_cl (by omega), yh_1] at this
      simpa using this
    · obtain ⟨q, q1, q2, q3⟩ := har.2.2.2.2 z
      refine ⟨q, q1, q2, by rw [if_neg (by omega)]; exact q3, ?_⟩
      have := w5 z hf
      rw [q3, i_cl (by omega)] at this
      exact this
  have l5 : (ch t).length ≤ 600 := hch.2.1
  refine I_end (d := 1) hI0 h1 same (fun f h => by rw [fF f (nmem h (by decide)) (nmem h (by decide)) (nmem h (by decide)), s1_F (nm_F h)]) ?_ ?_ (by omega) (by rw [d1, hch.1, i_a1]) (fun u hne => ⟨by rw [d2, up_n hne], ?_⟩) c5 (fun j j1 j2 => ?_) c6 (fun u hne => up1_n hne) lg ?_
  · obtain ⟨q, q1, q2⟩ := tr
    refine ⟨q, q1, ?_⟩
    rw [fF _ (by decide) (by decide) (by decide)]
    unfold S_1; dsimp only; rw [up_n (by decide)]; exact q2
  · rw [fF _ (by decide) (by decide) (by decide)]
    unfold S_1; dsimp only; rw [up_s]
  · rw [fA _ (by decide) (by decide)]
    unfold S_1; dsimp only; rw [up_s, up_n hne]
  · have : j = nr := by omega
    rw [this, c4.1]; decide
  · have est := same 47 (by decide)
    have sle := same 54 (by decide)
    refine hK.fin (dr := false) h1 hD.1 (fun f hf => same f (by revert f; decide)) (by rw [fF _ (by decide) (by decide) (by decide), s1_F (by decide)]; exact hK.1) (by rw [fF _ (by decide) (by decide) (by decide), s1_F (by decide)]) vL st (fun u u1 u2 huu p i hp hkk => ?_)
    have huu : undw S.2 u := by unfold undw at huu ⊢; rw [est] at huu; exact huu
    have mem : ∀ x ∈ v_L nl S.2, uf t x ∈ v_L nl S'.2 := fun x hx => by rw [vL]; exact List.mem_map.mpr ⟨x, List.mem_filter.mpr ⟨hx, by unfold kp; rw [Bool.false_and, Bool.false_and]; rfl⟩, rfl⟩
    have old : ∀ p i, (ch u).reverse[p]? = some i → (S'.2 36 i = 8 ∨ S'.2 36 i = 9 ∨ S'.2 36 i = 12 ∨ S'.2 36 i = 13) → ∃ x ∈ v_L nl S'.2, x.1 = nI u ∧ x.2.1 = S'.2 35 i ∧ x.2.2.1 = 4 ∧ x.2.2.2.1 = S'.2 36 i ∧ x.2.2.2.2.1 = S'.2 37 i ∧ x.2.2.2.2.2.2 = 0 ∧ ∃ v, v ≤ 4 ∧ x.2.2.2.2.2.1 = nI v ∧ (1 ≤ v → (S'.2 54 (5 * u + v)).toNatClampNeg ≤ p) := fun p i hp hkk => by
      have il : i < na := ((hL.2.2.2.2.2.2.1 u u1 u2 (Or.inl huu)).2.2.2.1 i (List.mem_reverse.mp (List.mem_of_getElem? hp))).1
      obtain ⟨_, a2, a3, a4, _⟩ := c6 i il
      rw [a3] at hkk
      obtain ⟨x, x1, x2, x3, x4, x5, x6, x9, v, v4, x7, x8⟩ := hK.2.2.2.2.2.2.2.2.2.2.2.2 u u1 u2 huu p i hp hkk
      obtain ⟨e1, e2, e3, e4, e5, e6, e7⟩ := uf_1 (t := t) (x := x)
      refine ⟨uf t x, mem x x1, e1.trans x2, by rw [a2]; exact e2.trans x3, e3.trans x4, by rw [a3]; exact e4.trans x5, by rw [a4]; exact e5.trans x6, by rw [e7, x9]; split <;> rfl, v, v4, e6.trans x7, ?_⟩
      rw [sle]; exact x8
    by_cases cu : u = t
    · subst cu
      rw [up1_s, List.reverse_cons] at hp
      by_cases cp : p < (ch u).reverse.length
      · rw [List.getElem?_append_left cp] at hp
        exact old p i hp hkk
      · rw [List.getElem?_append_right (by omega)] at hp
        have p0 : p = (ch u).length ∧ i = na := by
          rw [List.length_reverse] at hp cp
          by_cases c0 : p - (ch u).length = 0
          · rw [c0] at hp
            cases hp
            exact ⟨by omega, rfl⟩
          · rw [List.getElem?_eq_none (by simp only [List.length_cons, List.length_nil]; omega)] at hp
            cases hp
        obtain ⟨p1, p2⟩ := p0
        subst p2
        obtain ⟨e1, e2, e3, e4, e5, e6, e7, e8⟩ := c7
        rw [e3] at hkk
        have kl : k < 18 := by
          have kk : ∀ m : Nat, m < 22 → (nI k = nI m) = (k = m) := fun m hm => i_eq (by omega) (by omega)
          rw [show (8 : Int32) = nI 8 from rfl, show (9 : Int32) = nI 9 from rfl, show (12 : Int32) = nI 12 from rfl, show (13 : Int32) = nI 13 from rfl, kk 8 (by omega), kk 9 (by omega), kk 12 (by omega), kk 13 (by omega)] at hkk
          rcases hkk with z | z | z | z <;> rw [z] <;> decide
        obtain ⟨x, x1, x2, x3, x4, x5, x6⟩ := hl kl
        obtain ⟨f1, f2, f3, f4, f5, f6, f7⟩ := uf_1 (t := u) (x := x)
        obtain ⟨u0, _, v, g1, g2, g3, _, _, _, _, _, g9, g10, g11, _⟩ := hK.2.2.2.2.1 x x1
        refine ⟨uf u x, mem x x1, f1.trans x2, by rw [e2]; exact f2.trans x3, f3.trans x4, by rw [e3]; exact f4.trans x5, by rw [e4]; exact f5.trans x6, by rw [f7, if_pos x2], v, g10, f6.trans g9, fun v1 => ?_⟩
        obtain ⟨s, lv, m, x', a1, a2, a3, a4, a5, a6, a7, a8, a9, b1, bs, b2⟩ := hD.2.2.1 u h1 t2
        have gu : nI v ≤ S.2 51 u := by
          have : u0 = u := by
            have hb := hD.1
            rw [x2, i_eq (by omega) (by omega)] at g1
            exact g1.symm
          rw [← this]; exact g11
        rw [a4, i_le (by omega) (by omega)] at gu
        obtain ⟨z1, z2, _⟩ := b2 v v1 gu
        have mm : m = (ch u).length := by have := hch.1; rw [a7, i_eq (by omega) (by omega)] at this; exact this
        rw [sle, z1, i_cl (by omega)]
        omega
    · rw [up1_n cu] at hp
      exact old p i hp hkk
end TK
