/-! cut: acts of one who ended, kept again: the reference -/
section VW
variable {S S4 Sb : m_S} {n b l nl nw nr na ne c T i t no ν o k : Nat} {ch : Nat → List Nat} {e : Int32}
theorem kv_app : ∀ (a k o : Nat) (S : m_S), y_kv e o (a + k) S = y_kv e (o + a) k (y_kv e o a S)
  | 0, k, o, S => by rw [Nat.zero_add]; rfl
  | a + 1, k, o, S => by
    rw [show a + 1 + k = (a + k) + 1 by omega, y_kv, y_kv, kv_app a k (o + 1), show o + 1 + a = o + (a + 1) by omega]
theorem kv_0 : ∀ (k o : Nat) (S : m_S), (∀ q, o ≤ q → q < o + k → S.2 101 q = 0) → y_kv e o k S = S
  | 0, _, _, _ => rfl
  | k + 1, o, S, h => by
    rw [y_kv, if_pos (h o (Nat.le_refl _) (by omega))]
    exact kv_0 k (o + 1) S (fun q h1 h2 => h q (by omega) (by omega))
theorem kv_le {a k : Nat} (ha : a ≤ k) (h : ∀ q, a ≤ q → q < k → S.2 101 q = 0) : y_kv e 0 k S = y_kv e 0 a S := by
  rw [show k = a + (k - a) by omega, kv_app, Nat.zero_add]
  exact kv_0 _ _ _ (fun q h1 h2 => by rw [ykv_A (by decide)]; exact h q h1 (by omega))
theorem kv_o {q : Nat} : ∀ (k o : Nat) (S : m_S), q < o ∨ o + k ≤ q → (y_kv e o k S).2 97 q = S.2 97 q
  | 0, _, _, _ => rfl
  | k + 1, o, S, h => by
    rw [y_kv, kv_o k (o + 1) _ (by omega)]
    split
    · rfl
    · dsimp only
      rw [up_s, up_n (by omega)]
/-- acts ahead of a row write on objects made ahead of it -/
theorem act_wr (hL : I_lg n b nr na ch S) (h1 : 1 ≤ t) (h2 : t ≤ b) (hu : undw S.2 t ∨ S.2 47 t = 3) (ha : ∀ j ∈ ch t, ar S.2 j < i) (hi : i ≤ nr) (ho : md S.2 i ≤ o) (ho4 : o < 40) : (ch t).reverse.any (fun j => wrt S.2 j o) = false := by
  rw [List.any_eq_false]
  intro q hq
  obtain ⟨g1, g2, g3, g4, g5, g6, g7, g8, g9, g10⟩ := hL
  obtain ⟨c1, c2, c3, c4, c5⟩ := g7 t h1 h2 hu
  obtain ⟨a1, a2, a3, a4, a5, a6, a7, a8, a9, b1, b2, b3⟩ := c4 q (List.mem_reverse.mp hq)
  obtain ⟨u, o', k, i1, i2, i3, i4, i5, i6, i7, i8, i9, j1, j2, j3⟩ := (g6 _ a3).2.1 a4
  have mdn : md S.2 (ar S.2 q) ≤ md S.2 i := md_mono (by have := ha q (List.mem_reverse.mp hq); omega)
  have eO : ¬ S.2 35 q = nI o := by rw [a6, i4, i_eq (by omega) (by omega)]; omega
  have eB : S.2 36 q = 18 ∨ S.2 36 q = 19 → ¬ S.2 38 q = nI o := fun z => by
    rw [a9]
    rw [a7, i6] at z
    rcases z with z | z
    · rw [show (18 : Int32) = nI 18 from rfl, i_eq (by omega) (by omega)] at z
      obtain ⟨p, p1, p2, _⟩ := j2 z
      rw [p2, i_eq (by omega) (by omega)]; omega
    · rw [show (19 : Int32) = nI 19 from rfl, i_eq (by omega) (by omega)] at z
      obtain ⟨p, p1, _, p2, _⟩ := j3 z
      rw [p2, i_eq (by omega) (by omega)]; omega
  unfold wrt
  rw [decide_eq_false eO, Bool.and_false, Bool.or_false]
  by_cases z : S.2 36 q = 18 ∨ S.2 36 q = 19
  · rw [decide_eq_false (eB z), Bool.and_false]; decide
  · rw [decide_eq_false z, Bool.false_and]; decide
/-- as the acts of t are kept again -/
def Xk (ch : Nat → List Nat) (t no : Nat) (S4 : m_S) : m_S := (S4.1, va_up (va_up S4.2 100 (y_ord (fun j => (ch t).getD j 0) (ch t).length (S4.2 100))) 101 (y_clW no (S4.2 101)))
def Yk (ch : Nat → List Nat) (t no : Nat) (S4 : m_S) : m_S := y_kaL (fun j => (ch t).getD j 0) (ch t).length (Xk ch t no S4)
theorem xk_A {f : Nat} (h1 : f ≠ 100) (h2 : f ≠ 101) : (Xk ch t no S4).2 f = S4.2 f := by unfold Xk; dsimp only; rw [up_n h2, up_n h1]
theorem yk_rd {b' : Bool} : (Rd 40 y_ka1 (ch t).reverse b' (Xk ch t no S4)).2 = Yk ch t no S4 := by
  unfold Yk
  rw [← revr_rev]
  exact Rd_ka _ _ _
theorem rb_ref (hI : I_all n b l nl nw nr na ne ch 0 c T S) (hν : ν ≤ nr) (hi : i < ν) (cA : CtA (Cb S ν) b S.2 Sb.2) (hit : Sb.1 29 = 0) (hob : Sb.1 3 = nI no) (hcs : Sb.1 32 = nI no) (hno : md S.2 ν = no) (hw : S.2 17 i = 4) (h1 : 1 ≤ t) (h2 : t ≤ b) (st : S.2 47 t = 3) (er : S.2 59 t = nI i) (ha : ∀ j ∈ ch t, ar S.2 j < i) (he : y_cw (S.2 17) 4 0 i + 1 ≤ 400)
    (hj : JK S Sb no i S4) (hal : w_al 40 y_ka1 (ch t).reverse (cs (nI (md S.2 i)) (Xk ch t no S4))) (hel : elS 40 (md S.2 i) (Xk ch t no S4).2 (Yk ch t no S4).2) (hsz : w_sz (Yk ch t no S4).2) :
    w_keep t (ch t).length no (fun j => (ch t).getD j 0) S4 ∧ JK S Sb no (i + 1) (y_keep (nI (y_cw (S.2 17) 4 0 i + 1)) (ch t).length no (fun j => (ch t).getD j 0) S4) ∧ y_keep (nI (y_cw (S.2 17) 4 0 i + 1)) (ch t).length no (fun j => (ch t).getD j 0) S4 = y_kv (nI (y_cw (S.2 17) 4 0 i + 1)) 0 (md S.2 i) (Yk ch t no S4) ∧
    (∀ o, o < md S.2 i → (Yk ch t no S4).2 101 o = b_v ((ch t).reverse.any (fun j => wrt S.2 j o))) ∧ (∀ f, f ∉ [9, 10, 11, 12, 101, 100] → (Yk ch t no S4).2 f = S4.2 f) ∧ (∀ o, o < md S.2 i → ∃ v, 1 ≤ v ∧ v ≤ 400 ∧ (Yk ch t no S4).2 97 o = nI v) := by
  obtain ⟨j1, j2, j3, j4, j5, j6, j7⟩ := hj
  have b400 := hI.2.1.1
  have na6 := hI.1.2.2.2.2.1
  have n40 := hI.1.2.2.1.1
  have non : no ≤ n := by rw [← hno, hI.1.2.1]; exact md_mono hν
  have mdno : md S.2 i ≤ no := by rw [← hno]; exact md_mono (by omega)
  have nr2 : nr ≤ 2000 := by
    obtain ⟨p1, p2, p3, _⟩ := hI.2.2.2.2.2.2.1
    omega
  have Cf : Cb S ν t = false := by
    unfold Cb
    rw [st, er, decide_eq_false (show ¬ (3 : Int32) ≤ 2 by decide), Bool.false_or, decide_eq_false (show ¬ nI ν ≤ nI i by rw [i_le (by omega) (by omega)]; omega), Bool.and_false]
  have bC : ∀ f ∈ fp_cu, Sb.2 f t = S.2 f t := fun f hf => by rw [cA.2 f hf t, if_neg (fun z => by rw [Cf] at z; cases z.2.2)]
  have s4A : ∀ f, f ∉ fp_cu → f ∉ fp_vA → S4.2 f = S.2 f := fun f h h' => (j2 f h').trans (cA.1 f h h')
  have s4C : ∀ f ∈ fp_cu, S4.2 f t = S.2 f t := fun f hf => by rw [j2 f (by clear j2 j1 s4A bC; revert f; decide)]; exact bC f hf
  obtain ⟨hch1, hch2, hch3, hch4, hch5⟩ := hI.1.2.2.2.2.2.2.1 t h1 h2 (Or.inr st)
  have cn := chn_cn (hI.1.2.2.2.2.2.2.1 t h1 h2 (Or.inr st)) na6
  have hitS : S4.1 29 = 0 := (j1 _ (by decide)).trans hit
  have hitX : (Xk ch t no S4).1 29 = 0 := hitS
  have csX : (Xk ch t no S4).1 32 = nI no := (j1 _ (by decide)).trans hcs
  have parX : w_par no (Xk ch t no S4).2 := by
    unfold w_par
    rw [xk_A (by decide) (by decide), s4A _ (by decide) (by decide)]
    exact par_of (hI.1.2.2.1.le non)
  have al := cs_al (by omega) _ _ hal hitX csX parX
  have fr := Rd_fr ka_ok (ch t).reverse true (Xk ch t no S4)
  have t0 := T0_Rd ka_ok (ch t).reverse true (Xk ch t no S4) al (T0.rf hitX)
  rw [yk_rd] at fr t0
  have eF : ∀ f, f ∉ fp_s4 → (Yk ch t no S4).1 f = S4.1 f := fun f hf => by
    by_cases ct : f = 30
    · subst ct; exact t0.2.1
    · exact fr.1 f (nmem hf (by decide)) (nmem hf (by decide)) (nmem hf (by decide)) (nmem hf (by decide)) ct
  have eA : ∀ f, f ∉ [9, 10, 11, 12, 101] → (Yk ch t no S4).2 f = (Xk ch t no S4).2 f := fun f hf => by
    by_cases ct : f = 31
    · subst ct; exact t0.2.2
    · exact fr.2 f ct (nmem hf (by decide)) (nmem hf (by decide)) (nmem hf (by decide)) (nmem hf (by decide)) (nmem hf (by decide))
  have eA2 : ∀ f, f ∉ [9, 10, 11, 12, 101, 100] → (Yk ch t no S4).2 f = S4.2 f := fun f hf => by
    rw [eA f (fun z => hf (by clear hf; revert f; decide)), xk_A (nmem hf (by decide)) (nmem hf (by decide))]
  have hwX : w_01 40 ((Xk ch t no S4).2 101) := fun x hx => by
    unfold Xk
    dsimp only
    rw [up_s]
    unfold y_clW
    split
    · exact Or.inl rfl
    · exact j6 x hx
  have acts : ∀ j, j < (ch t).length → ∃ q kq, q < 40 ∧ (Xk ch t no S4).2 35 ((ch t).getD j 0) = nI q ∧ ((Xk ch t no S4).2 36 ((ch t).getD j 0) = 18 ∨ (Xk ch t no S4).2 36 ((ch t).getD j 0) = 19 → kq < 40 ∧ (Xk ch t no S4).2 38 ((ch t).getD j 0) = nI kq) := fun j hj => by
    have hm : (ch t).getD j 0 ∈ ch t := by
      rw [List.getD_eq_getElem?_getD, List.getElem?_eq_getElem hj]
      exact List.getElem_mem _
    obtain ⟨q, k, q1, q2, q3, q4, q5, q6⟩ := act_aok hI.1 h1 h2 (Or.inr st) ha (by omega) _ (List.mem_reverse.mpr hm)
    rw [xk_A (by decide) (by decide), xk_A (by decide) (by decide), xk_A (by decide) (by decide), s4A _ (by decide) (by decide), s4A _ (by decide) (by decide), s4A _ (by decide) (by decide)]
    by_cases ck : k = 18 ∨ k = 19
    · obtain ⟨p, p1, p2⟩ := q6 ck
      exact ⟨q, p, by omega, q3, fun _ => ⟨p1, p2⟩⟩
    · refine ⟨q, 0, by omega, q3, fun z => ?_⟩
      rw [q4, show (18 : Int32) = nI 18 from rfl, show (19 : Int32) = nI 19 from rfl, i_eq (by omega) (by omega), i_eq (by omega) (by omega)] at z
      exact absurd z ck
  have wr0 : ∀ o, o < 40 → (Yk ch t no S4).2 101 o = b_v (decide ((Xk ch t no S4).2 101 o = 1) || (ch t).reverse.any (fun j => wrt (Xk ch t no S4).2 j o)) := fun o ho => by
    have := kaL_w (c := fun j => (ch t).getD j 0) ho (ch t).length (Xk ch t no S4) hwX acts
    rw [revr_rev] at this
    exact this
  have wE : ∀ j o, wrt (Xk ch t no S4).2 j o = wrt S.2 j o := fun j o => by
    unfold wrt
    rw [xk_A (by decide) (by decide), xk_A (by decide) (by decide), xk_A (by decide) (by decide), xk_A (by decide) (by decide), s4A _ (by decide) (by decide), s4A _ (by decide) (by decide), s4A _ (by decide) (by decide), s4A _ (by decide) (by decide)]
  have wr : ∀ o, o < no → (Yk ch t no S4).2 101 o = b_v ((ch t).reverse.any (fun j => wrt S.2 j o)) := fun o ho => by
    rw [wr0 o (by omega)]
    have e0 : (Xk ch t no S4).2 101 o = 0 := by
      unfold Xk
      dsimp only
      rw [up_s]
      unfold y_clW
      rw [if_pos ho]
    rw [e0, show decide ((0 : Int32) = 1) = false from rfl, Bool.false_or]
    simp only [wE]
  have kE : y_keep (nI (y_cw (S.2 17) 4 0 i + 1)) (ch t).length no (fun j => (ch t).getD j 0) S4 = y_kv (nI (y_cw (S.2 17) 4 0 i + 1)) 0 no (Yk ch t no S4) := rfl
  have kL : y_kv (nI (y_cw (S.2 17) 4 0 i + 1)) 0 no (Yk ch t no S4) = y_kv (nI (y_cw (S.2 17) 4 0 i + 1)) 0 (md S.2 i) (Yk ch t no S4) := kv_le mdno (fun q q1 q2 => by
    rw [wr q q2, act_wr hI.1 h1 h2 (Or.inr st) ha (by omega) q1 (by omega)]; rfl)
  have n0 : ¬ S.2 17 i = 0 := by rw [hw]; decide
  have cw : y_cw (S.2 17) 4 0 (i + 1) = y_cw (S.2 17) 4 0 i + 1 := by rw [y_cw_s, Nat.zero_add, if_pos hw]
  have ver : ∀ o, o < no → ∃ v, S4.2 97 o = nI v ∧ 1 ≤ v ∧ v ≤ y_cw (S.2 17) 4 0 i + 1 := fun o ho => by
    obtain ⟨v, v1, v2, v3, _⟩ := j7 o ho
    exact ⟨v, v1, v2, v3⟩
  refine ⟨⟨by omega, by omega, by omega, ?_, (j1 _ (by decide)).trans hob, ?_, j6, j5, ?_, fun o ho => ?_⟩, ⟨fun f hf => ?_, fun f hf => ?_, fun o ho1 ho2 => ?_, ?_, fun x hx => ?_, fun x hx => ?_, ?_⟩, kE.trans kL, fun o ho => wr o (by omega), eA2, fun o ho => ?_⟩
  · rw [s4C _ (by decide)]; exact hch1
  · obtain ⟨q1, q2, q3⟩ := cn
    exact ⟨fun z => by rw [s4C _ (by decide)]; exact q1 z, q2, fun j hj => by rw [s4A _ (by decide) (by decide)]; exact q3 j hj⟩
  · rw [← revr_rev] at al
    exact w_ka _ _ cn.2.1 al
  · obtain ⟨v, v1, v2, v3⟩ := ver o ho
    exact ⟨v, by omega, v1⟩
  · rw [kE, ykv_F]; exact (eF f hf).trans (j1 f hf)
  · rw [kE, ykv_A (fun z => hf (by clear hf; revert f; decide)), eA2 f (fun z => hf (by clear hf; revert f; decide))]
    exact j2 f hf
  · rw [md_sn n0] at ho1
    rw [kE, kL, ykv_A (by decide), ykv_A (by decide), ykv_A (by decide), kv_o _ _ _ (by omega)]
    obtain ⟨x1, x2, x3⟩ := hel.1 (40 + o) (by omega)
    rw [x1, x2, x3, eA2 _ (by decide), xk_A (by decide) (by decide), xk_A (by decide) (by decide), xk_A (by decide) (by decide)]
    exact j3 o ho1 ho2
  · rw [kE]
    refine j4.tr (elS.tr (A' := (Xk ch t no S4).2) ⟨fun x _ => ⟨by rw [xk_A (by decide) (by decide)], by rw [xk_A (by decide) (by decide)], by rw [xk_A (by decide) (by decide)]⟩, fun x _ => by rw [xk_A (by decide) (by decide)]⟩ ((hel.le mdno).tr ⟨fun x _ => ⟨by rw [ykv_A (by decide)], by rw [ykv_A (by decide)], by rw [ykv_A (by decide)]⟩, fun x _ => by rw [ykv_A (by decide)]⟩))
  · rw [kE, ykv_A (by decide)]; exact hsz x hx
  · rw [kE, ykv_A (by decide), wr0 x hx]; exact b_v01
  · rw [kE, cw]
    have hv' := ykv_v (n := no) (ev := nI (y_cw (S.2 17) 4 0 i + 1)) (D := fun x => dg0 (S4.2 4 x) (S4.2 6 x)) (m := y_cw (S.2 17) 4 0 i + 1) (by omega) no 0 (Yk ch t no S4) (by omega) (fun x hx => by
      rw [eA2 _ (by decide), eA2 _ (by decide), eA2 _ (by decide)]
      obtain ⟨v, y1, y2, y3, y4, y5⟩ := j7 x hx
      exact ⟨v, y1, y2, by omega, fun _ => y3, y4, y5⟩)
    intro x hx
    obtain ⟨v, y1, y2, y3, y4, y5⟩ := hv' x hx
    refine ⟨v, y1, y2, y3, y4, y5.trans ?_⟩
    rw [ykv_A (by decide), ykv_A (by decide), eA2 _ (by decide), eA2 _ (by decide)]
  · obtain ⟨v, v1, v2, v3⟩ := ver o (by omega)
    exact ⟨v, v2, by omega, by rw [eA2 _ (by decide)]; exact v1⟩
end VW
