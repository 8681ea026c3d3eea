/-! end: the reference's side -/
section UK
variable {S S' S2 : m_S} {A : m_A} {n b l nl nw nr na ne t j e i c T x0 m : Nat} {st : Nat → m_S → m_S} {ch ch' : Nat → List Nat} {ev : Int32}
theorem ykv_F : ∀ (k o : Nat) (S : m_S), (y_kv ev o k S).1 = S.1
  | 0, _, _ => rfl
  | k + 1, o, S => by
    rw [y_kv, ykv_F k]
    split <;> rfl
theorem ykv_A {f : Nat} (h : f ∉ [98, 99, 97]) : ∀ (k o : Nat) (S : m_S), (y_kv ev o k S).2 f = S.2 f
  | 0, _, _ => rfl
  | k + 1, o, S => by
    rw [y_kv, ykv_A h k]
    split
    · rfl
    · dsimp only
      rw [up_n (nmem h (by decide)), up_n (nmem h (by decide)), up_n (nmem h (by decide))]
theorem ykv_v {D : Nat → Int32} (hm : m ≤ 400) : ∀ (k o : Nat) (S : m_S), o + k = n → (∀ x, x < n → ∃ v, S.2 97 x = nI v ∧ 1 ≤ v ∧ v ≤ m + 1 ∧ (o ≤ x → v ≤ m) ∧ S.2 98 (401 * x) = 0 ∧ S.2 99 (401 * x) = D x) → ∀ x, x < n → ∃ v, (y_kv ev o k S).2 97 x = nI v ∧ 1 ≤ v ∧ v ≤ m + 1 ∧ (y_kv ev o k S).2 98 (401 * x) = 0 ∧ (y_kv ev o k S).2 99 (401 * x) = D x
  | 0, _, _, _, h => fun x hx => by
    obtain ⟨v, h1, h2, h3, h4, h5⟩ := h x hx
    exact ⟨v, h1, h2, h3, h5⟩
  | k + 1, o, S, ho, h => by
    rw [y_kv]
    refine ykv_v hm k (o + 1) _ (by omega) (fun x hx => ?_)
    obtain ⟨v, h1, h2, h3, h4, h5⟩ := h x hx
    obtain ⟨w, w1, w2, w3, w4, w5⟩ := h o (by omega)
    have w6 := w4 (Nat.le_refl _)
    split
    · exact ⟨v, h1, h2, h3, fun z => h4 (by omega), h5⟩
    · dsimp only
      rw [up_s, up_n (show 98 ≠ 97 by decide), up_n (show 98 ≠ 99 by decide), up_s, up_n (show 99 ≠ 97 by decide), up_s, w1, i_cl (by omega), i_a1]
      have nx : 401 * x ≠ 401 * o + w := by omega
      rw [up_n nx, up_n nx]
      by_cases cx : x = o
      · subst cx
        rw [up_s]
        exact ⟨w + 1, rfl, by omega, by omega, fun z => by omega, h5⟩
      · rw [up_n cx]
        exact ⟨v, h1, h2, h3, fun z => h4 (by omega), h5⟩
theorem T0_Rd {S0 : m_S} (hst : st_ok x0 st) : ∀ (L : List Nat) (b : Bool) (S : m_S), w_al x0 st L S → T0 S0 S → T0 S0 (Rd x0 st L b S).2
  | [], _, _, _, h => h
  | i :: L, b, S, hw, h => by
    rw [Rd]
    refine T0_Rd hst L _ _ hw.2 ?_
    obtain ⟨s1, s2⟩ := hst i S
    obtain ⟨o, k, h1, h2, h3, h4, _⟩ := hw.1
    have : T0 S0 (y_wk x0 i S).2 := by
      unfold y_wk
      rw [h4, i_cl (by omega)]
      exact tr_w h2 h
    exact ⟨by rw [s1]; exact this.1, by rw [s1]; exact this.2.1, by rw [s2 _ (by decide)]; exact this.2.2⟩
/-- what keeping the acts of the one that ends gives -/
def Kp (j e n : Nat) (S S2 : m_S) : Prop := (∀ f, f ∉ [60, 25, 28, 26, 27] → S2.1 f = S.1 f) ∧ S2.1 60 = nI (e + 1) ∧
  (∀ f, f ∉ [61, 58, 100, 101, 9, 10, 11, 12, 97, 98, 99] → S2.2 f = S.2 f) ∧ S2.2 61 = va_up (S.2 61) (e + 1) (nI j) ∧ S2.2 58 = va_up (S.2 58) j (nI (e + 1)) ∧ elS 40 n S.2 S2.2 ∧ w_sz S2.2 ∧ w_01 40 (S2.2 101) ∧ I_ve n (e + 1) S2
def Sw (j e m n : Nat) (c : Nat → Nat) (S : m_S) : m_S := ((y_en1 j e S).1, va_up (va_up (y_en1 j e S).2 100 (y_ord c m ((y_en1 j e S).2 100))) 101 (y_clW n ((y_en1 j e S).2 101)))
theorem sw_A {c : Nat → Nat} {f : Nat} (h : f ∉ [61, 58, 100, 101]) : (Sw j e m n c S).2 f = S.2 f := by
  unfold Sw y_en1
  dsimp only
  rw [up_n (nmem h (by decide)), up_n (nmem h (by decide)), up_n (nmem h (by decide)), up_n (nmem h (by decide))]
theorem sw_F {c : Nat → Nat} {f : Nat} (h : f ≠ 60) : (Sw j e m n c S).1 f = S.1 f := by
  unfold Sw y_en1
  dsimp only
  rw [up_n h]
theorem kp_ok {c : Nat → Nat} (hV : I_ve n e S) (he : e + 1 ≤ 400) (ht : S.1 29 = 0) (hw : w_01 40 (S.2 101)) (hn : n ≤ 40) (hal : w_al 40 y_ka1 (revr c m) (Sw j e m n c S)) (hel : elS 40 n (Sw j e m n c S).2 (y_kaL c m (Sw j e m n c S)).2) (hsz : w_sz (y_kaL c m (Sw j e m n c S)).2)
    (hac : ∀ i, i < m → ∃ q kq, q < 40 ∧ S.2 35 (c i) = nI q ∧ (S.2 36 (c i) = 18 ∨ S.2 36 (c i) = 19 → kq < 40 ∧ S.2 38 (c i) = nI kq)) : Kp j e n S (y_keep (nI (e + 1)) m n c (y_en1 j e S)) ∧ ∀ o, o < n → (y_kaL c m (Sw j e m n c S)).2 101 o = b_v ((revr c m).any (fun i => wrt S.2 i o)) := by
  have eS : y_keep (nI (e + 1)) m n c (y_en1 j e S) = y_kv (nI (e + 1)) 0 n (y_kaL c m (Sw j e m n c S)) := rfl
  have fr := Rd_fr ka_ok (revr c m) true (Sw j e m n c S)
  have t0 := T0_Rd ka_ok (revr c m) true (Sw j e m n c S) hal (T0.rf (by rw [sw_F (by decide)]; exact ht))
  rw [Rd_ka] at fr t0
  have hw' : w_01 40 ((Sw j e m n c S).2 101) := fun x hx => by
    unfold Sw y_en1
    dsimp only
    rw [up_s, up_n (by decide), up_n (by decide)]
    unfold y_clW
    split
    · exact Or.inl rfl
    · exact hw x hx
  have wr : ∀ o, o < 40 → (y_kaL c m (Sw j e m n c S)).2 101 o = b_v (decide ((Sw j e m n c S).2 101 o = 1) || (revr c m).any (fun j' => wrt (Sw j e m n c S).2 j' o)) := fun o ho => kaL_w ho m _ hw' (fun i hi => by
    obtain ⟨q, kq, h1, h2, h3⟩ := hac i hi
    exact ⟨q, kq, h1, by rw [sw_A (by decide)]; exact h2, by rw [sw_A (by decide), sw_A (by decide)]; exact h3⟩)
  have eF : ∀ f, f ∉ [60, 25, 28, 26, 27] → (y_kaL c m (Sw j e m n c S)).1 f = S.1 f := fun f hf => by
    by_cases ct : f = 30
    · subst ct
      rw [t0.2.1, sw_F (by decide)]
    · rw [fr.1 f (nmem hf (by decide)) (nmem hf (by decide)) (nmem hf (by decide)) (nmem hf (by decide)) ct, sw_F (nmem hf (by decide))]
  have eA : ∀ f, f ∉ [9, 10, 11, 12, 101] → (y_kaL c m (Sw j e m n c S)).2 f = (Sw j e m n c S).2 f := fun f hf => by
    by_cases ct : f = 31
    · subst ct
      exact t0.2.2
    · exact fr.2 f ct (nmem hf (by decide)) (nmem hf (by decide)) (nmem hf (by decide)) (nmem hf (by decide)) (nmem hf (by decide))
  refine ⟨?_, fun o ho => ?_⟩
  · rw [eS]
    refine ⟨fun f hf => by rw [ykv_F]; exact eF f hf, ?_, fun f hf => ?_, ?_, ?_, ?_, fun x hx => ?_, fun x hx => ?_, ?_⟩
    · rw [ykv_F, fr.1 _ (by decide) (by decide) (by decide) (by decide) (by decide)]
      unfold Sw y_en1
      dsimp only
      rw [up_s]
    · have s1 : f ∉ [98, 99, 97] := fun z => hf (by clear hf; revert f; decide)
      have s2 : f ∉ [9, 10, 11, 12, 101] := fun z => hf (by clear hf s1; revert f; decide)
      have s3 : f ∉ [61, 58, 100, 101] := fun z => hf (by clear hf s1 s2; revert f; decide)
      rw [ykv_A s1, eA f s2, sw_A s3]
    · rw [ykv_A (by decide), eA _ (by decide)]
      unfold Sw y_en1
      dsimp only
      rw [up_n (by decide), up_n (by decide), up_n (by decide), up_s]
    · rw [ykv_A (by decide), eA _ (by decide)]
      unfold Sw y_en1
      dsimp only
      rw [up_n (by decide), up_n (by decide), up_s]
    · refine elS.tr (A' := (Sw j e m n c S).2) ⟨fun i _ => ⟨by rw [sw_A (by decide)], by rw [sw_A (by decide)], by rw [sw_A (by decide)]⟩, fun i _ => by rw [sw_A (by decide)]⟩ (hel.tr ⟨fun i _ => ⟨by rw [ykv_A (by decide)], by rw [ykv_A (by decide)], by rw [ykv_A (by decide)]⟩, fun i _ => by rw [ykv_A (by decide)]⟩)
    · rw [ykv_A (by decide)]; exact hsz x hx
    · rw [ykv_A (by decide), wr x hx]; exact b_v01
    · have hv' := ykv_v (n := n) (ev := nI (e + 1)) (D := fun x => dg0 (S.2 4 x) (S.2 6 x)) (m := e + 1) (by omega) n 0 (y_kaL c m (Sw j e m n c S)) (by omega) (fun x hx => by
        rw [eA _ (by decide), eA _ (by decide), eA _ (by decide), sw_A (by decide), sw_A (by decide), sw_A (by decide)]
        obtain ⟨v, h1, h2, h3, h4, h5⟩ := hV x hx
        exact ⟨v, h1, h2, by omega, fun _ => h3, h4, h5⟩)
      intro x hx
      obtain ⟨v, h1, h2, h3, h4, h5⟩ := hv' x hx
      refine ⟨v, h1, h2, h3, h4, h5.trans ?_⟩
      rw [ykv_A (by decide), ykv_A (by decide), eA _ (by decide), eA _ (by decide), sw_A (by decide), sw_A (by decide)]
  · rw [wr o (by omega)]
    have e0 : (Sw j e m n c S).2 101 o = 0 := by
      unfold Sw y_en1
      dsimp only
      rw [up_s]
      unfold y_clW
      rw [if_pos ho]
    rw [e0, show decide ((0 : Int32) = 1) = false from rfl, Bool.false_or]
    have ew : ∀ i, wrt (Sw j e m n c S).2 i o = wrt S.2 i o := fun i => by unfold wrt; rw [sw_A (by decide), sw_A (by decide), sw_A (by decide), sw_A (by decide)]
    simp only [ew]
/-- the rest of an end -/
def Sf (j e nl i l : Nat) (S2 : m_S) : m_S := y_leave i l (y_en4 j (y_drop (nI j) (-1) nl (y_en3 (y_en2 j e S2))))
theorem en3_A : (y_en3 S).2 = S.2 := by
  unfold y_en3 y_fA
  split <;> rfl
theorem en3_F {f : Nat} (h : f ∉ [14, 15]) : (y_en3 S).1 f = S.1 f := by
  unfold y_en3 y_fA
  split
  · dsimp only; rw [up_n (nmem h (by decide))]
  · dsimp only; rw [up_n (nmem h (by decide)), up_n (nmem h (by decide)), up_n (nmem h (by decide))]
theorem sf_A {f : Nat} (hR : f ∉ fp_R) (hL : f ∉ fp_L) (h : f ∉ [59, 47, 46]) : (Sf j e nl i l S2).2 f = S2.2 f := by
  unfold Sf
  rw [yl_A (nmem h (by decide))]
  unfold y_en4
  dsimp only
  rw [up_n (nmem h (by decide)), yd_A hL, en3_A]
  unfold y_en2
  rw [yput_A hR]
  dsimp only
  rw [up_n (nmem h (by decide))]
theorem sf_F {f : Nat} (h : f ∉ [13, 14, 15, 72, 45]) : (Sf j e nl i l S2).1 f = S2.1 f := by
  unfold Sf
  rw [yl_F (nmem h (by decide))]
  unfold y_en4
  dsimp only
  rw [yd_F (nmem h (by decide)), en3_F (fun z => h (by clear h; revert f; decide))]
  unfold y_en2
  rw [yput_F (nmem h (by decide))]
theorem sf_s : (Sf j e nl i l S2).2 47 = va_up (S2.2 47) j 3 ∧ (Sf j e nl i l S2).2 59 = va_up (S2.2 59) j (S2.1 13) ∧ (Sf j e nl i l S2).1 45 = nI (l - 1) := by
  unfold Sf
  refine ⟨?_, ?_, ?_⟩
  · rw [yl_A (by decide)]
    unfold y_en4
    dsimp only
    rw [up_s, yd_A (by decide), en3_A]
    unfold y_en2
    rw [yput_A (by decide)]
    dsimp only
    rw [up_n (by decide)]
  · rw [yl_A (by decide)]
    unfold y_en4
    dsimp only
    rw [up_n (by decide), yd_A (by decide), en3_A]
    unfold y_en2
    rw [yput_A (by decide)]
    dsimp only
    rw [up_s]
  · unfold y_leave
    dsimp only
    rw [up_s]
theorem sf_r (hr : S2.1 13 = nI nr) (hn : nr ≤ 6000) : (Sf j e nl i l S2).1 13 = nI (nr + 1) ∧ rw_eq nr S2.2 (Sf j e nl i l S2).2 ∧ rowAt (Sf j e nl i l S2).2 nr 4 (nI j) (-1) (-1) 0 0 (nI (e + 1)) (-1) := by
  have h0 : (S2.1, va_up S2.2 59 (va_up (S2.2 59) j (S2.1 13))).1 13 = nI nr := hr
  have hq := yput_row h0 (by omega) (w := 4) (t := nI j) (o := -1) (k := -1) (a := 0) (b := 0) (c := nI (e + 1)) (u := -1)
  have e1 : ∀ f, f ∈ fp_R → (Sf j e nl i l S2).2 f = (y_put 4 (nI j) (-1) (-1) 0 0 (nI (e + 1)) (-1) (S2.1, va_up S2.2 59 (va_up (S2.2 59) j (S2.1 13)))).2 f := fun f hf => by
    unfold Sf
    rw [yl_A (fun z => by subst z; revert hf; decide)]
    unfold y_en4
    dsimp only
    rw [up_n (fun z => by subst z; revert hf; decide), yd_A (fun z => by clear hr hn h0 hq; revert f; decide), en3_A]
    rfl
  have e2 : ∀ f, f ∈ fp_R → (S2.1, va_up S2.2 59 (va_up (S2.2 59) j (S2.1 13))).2 f = S2.2 f := fun f hf => by
    dsimp only
    rw [up_n (fun z => by subst z; revert hf; decide)]
  refine ⟨?_, fun q hj => ?_, ?_⟩
  · unfold Sf
    rw [yl_F (by decide)]
    unfold y_en4
    dsimp only
    rw [yd_F (by decide), en3_F (by decide)]
    exact yput_r h0
  · obtain ⟨a1, a2, a3, a4, a5, a6, a7, a8⟩ := hq.2 q (by omega)
    rw [e2 _ (by decide)] at a1 a2 a3 a4 a5 a6 a7 a8
    rw [e1 _ (by decide), e1 _ (by decide), e1 _ (by decide), e1 _ (by decide), e1 _ (by decide), e1 _ (by decide), e1 _ (by decide), e1 _ (by decide)]
    exact ⟨a1, a2, a3, a4, a5, a6, a7, a8⟩
  · unfold rowAt
    rw [e1 _ (by decide), e1 _ (by decide), e1 _ (by decide), e1 _ (by decide), e1 _ (by decide), e1 _ (by decide), e1 _ (by decide), e1 _ (by decide)]
    exact hq.1
theorem sf_f (hr : S2.1 13 = nI nr) : (S2.1 15 + 1 < S2.1 2 ∧ (Sf j e nl i l S2).1 14 = S2.1 14 ∧ (Sf j e nl i l S2).1 15 = S2.1 15 + 1) ∨ (¬ S2.1 15 + 1 < S2.1 2 ∧ (Sf j e nl i l S2).1 14 = nI (nr + 1) ∧ (Sf j e nl i l S2).1 15 = 0) := by
  have h0 : (y_en2 j e S2).1 13 = nI (nr + 1) := by unfold y_en2; exact yput_r hr
  have g1 : (y_en2 j e S2).1 15 = S2.1 15 := by unfold y_en2; rw [yput_F (by decide)]
  have g2 : (y_en2 j e S2).1 2 = S2.1 2 := by unfold y_en2; rw [yput_F (by decide)]
  have g3 : (y_en2 j e S2).1 14 = S2.1 14 := by unfold y_en2; rw [yput_F (by decide)]
  have e1 : (Sf j e nl i l S2).1 14 = (y_en3 (y_en2 j e S2)).1 14 := by
    unfold Sf
    rw [yl_F (by decide)]
    unfold y_en4
    dsimp only
    rw [yd_F (by decide)]
  have e2 : (Sf j e nl i l S2).1 15 = (y_en3 (y_en2 j e S2)).1 15 := by
    unfold Sf
    rw [yl_F (by decide)]
    unfold y_en4
    dsimp only
    rw [yd_F (by decide)]
  rw [e1, e2, ← g1, ← g2, ← g3]
  unfold y_en3 y_fA
  by_cases cc : (y_en2 j e S2).1 15 + 1 < (y_en2 j e S2).1 2
  · rw [if_pos cc]
    refine Or.inl ⟨cc, ?_, ?_⟩
    · dsimp only; rw [up_n (by decide)]
    · dsimp only; rw [up_s]
  · rw [if_neg cc]
    refine Or.inr ⟨cc, ?_, ?_⟩
    · dsimp only; rw [up_n (by decide), up_s, up_n (by decide), h0]
    · dsimp only; rw [up_s]
theorem sf_L : ∃ nl', nl' ≤ nl ∧ (Sf j e nl i l S2).1 72 = nI nl' ∧ v_L nl' (Sf j e nl i l S2).2 = (v_L nl S2.2).filter (fun x => x.1 != nI j) := by
  obtain ⟨nl', h1, h2, h3⟩ := v_yd (nl := nl) (S := y_en3 (y_en2 j e S2)) (u := nI j) (v := -1)
  refine ⟨nl', h1, ?_, ?_⟩
  · unfold Sf
    rw [yl_F (by decide)]
    unfold y_en4
    exact h2
  · have e1 : v_L nl' (Sf j e nl i l S2).2 = v_L nl' (y_drop (nI j) (-1) nl (y_en3 (y_en2 j e S2))).2 := vL_cg (fun f hf => by
      unfold Sf
      rw [yl_A (fun z => by subst z; revert hf; decide)]
      unfold y_en4
      dsimp only
      rw [up_n (fun z => by subst z; revert hf; decide)])
    rw [e1, h3, vL_cg (A := S2.2) (fun f hf => by
      rw [en3_A]
      unfold y_en2
      rw [yput_A (fun z => by clear h1 h2 h3 e1; revert f; decide)]
      dsimp only
      rw [up_n (fun z => by subst z; revert hf; decide)])]
    congr 1
    funext x
    rw [go_all]
    rfl
theorem sf_lv (hi : i < l) : v_lv (l - 1) (Sf j e nl i l S2).2 = (v_lv l S2.2).eraseIdx i ∧ ∀ q, q < l - 1 → (Sf j e nl i l S2).2 46 q = S2.2 46 q ∨ (Sf j e nl i l S2).2 46 q = S2.2 46 (q + 1) := by
  have e0 : (y_en4 j (y_drop (nI j) (-1) nl (y_en3 (y_en2 j e S2)))).2 46 = S2.2 46 := by
    unfold y_en4
    dsimp only
    rw [up_n (by decide), yd_A (by decide), en3_A]
    unfold y_en2
    rw [yput_A (by decide)]
    dsimp only
    rw [up_n (by decide)]
  refine ⟨?_, fun q hq => ?_⟩
  · have := v_leave (S := y_en4 j (y_drop (nI j) (-1) nl (y_en3 (y_en2 j e S2)))) hi
    have e2 : v_lv l (y_en4 j (y_drop (nI j) (-1) nl (y_en3 (y_en2 j e S2)))).2 = v_lv l S2.2 := by unfold v_lv; rw [e0]
    rw [e2] at this
    exact this
  · unfold Sf y_leave
    dsimp only
    rw [up_s, e0]
    unfold va_cpy
    split
    · rename_i h
      exact Or.inr (by rw [show i + 1 + (q - i) = q + 1 by omega])
    · exact Or.inl rfl
end UK
