/-! how many have come matters to sums alone -/
section VQ
variable {S : m_S} {x i x0 : Nat} {v a : Int32} {F : Nat → Int32} {A : m_A}
def cs (v : Int32) (S : m_S) : m_S := (va_up S.1 32 v, S.2)
theorem up_cs {f : Nat} {w : Int32} (h : f ≠ 32) : va_up (va_up F 32 v) f w = va_up (va_up F f w) 32 v := by
  funext g
  by_cases c : g = f
  · subst c; rw [up_s, up_n h, up_s]
  · by_cases d : g = 32
    · subst d; rw [up_n c, up_s, up_s]
    · rw [up_n c, up_n d, up_n d, up_n c]
theorem cs_it (h : S.1 29 = 0) : (cs v S).1 29 = 0 := by unfold cs; dsimp only; rw [up_n (by decide)]; exact h
theorem cs_f {f : Nat} (h : f ≠ 32) : (cs v S).1 f = S.1 f := by unfold cs; dsimp only; rw [up_n h]
theorem cs_more {a : Int64} (h : S.1 29 = 0) : y_more x a (cs v S) = cs v (y_more x a S) := by
  have hb : ∀ w, y_body w S = S := fun w => yb0 h
  have hb' : ∀ w, y_body w (cs v S) = cs v S := fun w => yb0 (cs_it h)
  have h2 : (va_up S.1 25 0, S.2).1 29 = 0 := by dsimp only; rw [up_n (by decide)]; exact h
  have hc : ∀ w, y_body w (va_up S.1 25 0, S.2) = (va_up S.1 25 0, S.2) := fun w => yb0 h2
  have hc' : ∀ w, y_body w (va_up (cs v S).1 25 0, (cs v S).2) = (va_up (cs v S).1 25 0, (cs v S).2) := fun w => yb0 (by dsimp only; rw [up_n (by decide)]; exact cs_it h)
  have es : y_sort (cs v S).1 (cs v S).2 x = y_sort S.1 S.2 x := ys_u (by decide)
  unfold y_more
  rw [es]
  simp only [hb, hb', hc, hc']
  show (if y_sort S.1 S.2 x = 1 then _ else if (S.2 9 x).toInt64 + a < 0 then _ else if 1000000000 < (S.2 9 x).toInt64 + a then _ else _) = _
  by_cases c1 : y_sort S.1 S.2 x = 1
  · rw [if_pos c1, if_pos c1]; rfl
  rw [if_neg c1, if_neg c1]
  by_cases c2 : (S.2 9 x).toInt64 + a < 0
  · rw [if_pos c2, if_pos c2]; unfold cs; dsimp only; rw [up_cs (by decide)]
  rw [if_neg c2, if_neg c2]
  by_cases c3 : 1000000000 < (S.2 9 x).toInt64 + a
  · rw [if_pos c3, if_pos c3]; unfold cs; dsimp only; rw [up_cs (by decide)]
  rw [if_neg c3, if_neg c3]; unfold cs; dsimp only; rw [up_cs (by decide)]
theorem more_it {a : Int64} (h : S.1 29 = 0) : (y_more x a S).1 29 = 0 := (T0_more (T0.rf h)).1
theorem cs_wA {k : Nat} {a b : Int32} (h : S.1 29 = 0) (hk : k < 22) : (y_wA x k a b (cs v S)).2 = cs v (y_wA x k a b S).2 := by
  have hb : ∀ w, y_body w S = S := fun w => yb0 h
  have hb' : ∀ w, y_body w (cs v S) = cs v S := fun w => yb0 (cs_it h)
  have es : y_sort (cs v S).1 (cs v S).2 x = y_sort S.1 S.2 x := ys_u (by decide)
  have e2 : (cs v S).2 = S.2 := rfl
  have e1 : (cs v S).1 = va_up S.1 32 v := rfl
  obtain rfl | rfl | rfl | rfl | rfl | rfl | rfl | rfl | rfl | rfl | rfl | rfl | rfl | rfl | rfl | rfl | rfl | rfl | rfl | rfl | rfl | rfl : k = 0 ∨ k = 1 ∨ k = 2 ∨ k = 3 ∨ k = 4 ∨ k = 5 ∨ k = 6 ∨ k = 7 ∨ k = 8 ∨ k = 9 ∨ k = 10 ∨ k = 11 ∨ k = 12 ∨ k = 13 ∨ k = 14 ∨ k = 15 ∨ k = 16 ∨ k = 17 ∨ k = 18 ∨ k = 19 ∨ k = 20 ∨ k = 21 := by omega
  all_goals simp (decide := true) only [y_wA, if_true, if_false, hb, hb']
  · exact cs_more h
  · have h2 : (va_up S.1 25 0, S.2).1 29 = 0 := by dsimp only; rw [up_n (by decide)]; exact h
    have by2 : ∀ T : m_S, T.1 29 = 0 → (y_by2 x a (cs v T)).2 = cs v (y_by2 x a T).2 := fun T ht => by
      unfold y_by2
      rw [yb0 ht, yb0 (cs_it ht)]
      by_cases c : a = 0
      · rw [if_pos c, if_pos c]; unfold cs; dsimp only; rw [up_cs (by decide)]
      · rw [if_neg c, if_neg c]; unfold cs; dsimp only; rw [up_cs (by decide)]
    unfold y_by
    rw [es, hb, hb']
    by_cases c6 : y_sort S.1 S.2 x = 6
    · rw [if_pos c6, if_pos c6]
      by_cases c0 : a < 0
      · rw [if_pos c0, if_pos c0]; unfold cs; dsimp only; rw [up_cs (by decide)]
      · rw [if_neg c0, if_neg c0]
        have := by2 _ h2
        unfold cs at this ⊢
        dsimp only at this ⊢
        rw [up_cs (by decide)]
        exact this
    · rw [if_neg c6, if_neg c6]
      exact by2 S h
  · rfl
  · unfold y_ofSet
    rw [hb, hb']
    simp only [e2]
    by_cases c : (S.2 9 x >>> (nI a.toNatClampNeg &&& 31)) &&& 1 = 1
    · rw [if_pos c, if_pos c]; rfl
    · rw [if_neg c, if_neg c]; rfl
  · unfold y_ofSet
    rw [hb, hb']
    simp only [e2]
    by_cases c : (S.2 9 x >>> (nI a.toNatClampNeg &&& 31)) &&& 1 = 1
    · rw [if_pos c, if_pos c]; rfl
    · rw [if_neg c, if_neg c]; rfl
  · unfold y_ofSet
    rw [hb, hb']
    simp only [e2]
    by_cases c : (S.2 9 x >>> (nI a.toNatClampNeg &&& 31)) &&& 1 = 1
    · rw [if_pos c, if_pos c]; rfl
    · rw [if_neg c, if_neg c]; rfl
  all_goals try (unfold y_ofQ; rw [hb, hb']; simp (decide := true) only [e2, e1, if_true, if_false]; repeat' split; all_goals first | rfl | (unfold cs; dsimp only; rw [up_cs (by decide)]); done)
  all_goals try (unfold y_ofMap; rw [hb, hb']; simp (decide := true) only [e2, e1, if_true, if_false]; repeat' split; all_goals first | (unfold cs; dsimp only; rw [up_cs (by decide), up_cs (by decide)]; done) | (unfold cs; dsimp only; rw [up_cs (by decide), up_cs (by decide), up_cs (by decide)]; done))
  · by_cases c1 : a < 0
    · rw [if_pos c1, if_pos c1]; unfold cs; dsimp only; rw [up_cs (by decide)]
    rw [if_neg c1, if_neg c1]
    by_cases c2 : S.2 10 x < a
    · rw [if_pos c2, if_pos c2]; unfold cs; dsimp only; rw [up_cs (by decide)]
    · rw [if_neg c2, if_neg c2]; unfold cs; dsimp only; rw [up_cs (by decide)]
  · exact cs_more h
  · exact cs_more h
  · rfl
  · unfold y_bump
    rw [hb, hb']
    simp only [e2]
    by_cases c1 : S.2 9 x = -1
    · rw [if_pos c1, if_pos c1]; unfold cs; dsimp only; rw [up_cs (by decide), up_cs (by decide)]
    rw [if_neg c1, if_neg c1]
    by_cases c2 : y_has (S.2 4 (S.2 9 x).toNatClampNeg) 1 = true
    · rw [if_pos c2, if_pos c2]
      have := cs_more (v := v) (x := x - x % 40 + (S.2 9 x).toNatClampNeg) (a := a.toInt64) (S := (va_up S.1 26 (S.2 9 x), S.2)) (by dsimp only; rw [up_n (by decide)]; exact h)
      rw [← this]
      unfold cs; dsimp only; rw [up_cs (by decide)]
    · rw [if_neg c2, if_neg c2]; unfold cs; dsimp only; rw [up_cs (by decide), up_cs (by decide)]
  · unfold y_move
    rw [hb, hb, hb', hb']
    dsimp only
    rw [cs_more h]
    have h2 := more_it (x := x) (a := -a.toInt64) h
    generalize y_more x (-a.toInt64) S = S2 at h2 ⊢
    have f2 : (cs v S2).1 25 = S2.1 25 := cs_f (by decide)
    rw [f2]
    by_cases c1 : S2.1 25 = 0
    · rw [if_pos c1, if_pos c1, yb0 h2, yb0 (cs_it h2)]
      have e : (if (cs v S2).2 4 b.toNatClampNeg = 6 then y_more (x - x % 40 + b.toNatClampNeg) a.toInt64 (cs v S2) else (va_up (cs v S2).1 25 2, (cs v S2).2)) = cs v (if S2.2 4 b.toNatClampNeg = 6 then y_more (x - x % 40 + b.toNatClampNeg) a.toInt64 S2 else (va_up S2.1 25 2, S2.2)) := by
        show (if S2.2 4 b.toNatClampNeg = 6 then _ else _) = _
        by_cases c2 : S2.2 4 b.toNatClampNeg = 6
        · rw [if_pos c2, if_pos c2]; exact cs_more h2
        · rw [if_neg c2, if_neg c2]; unfold cs; dsimp only; rw [up_cs (by decide)]
      rw [e]
      generalize (if S2.2 4 b.toNatClampNeg = 6 then y_more (x - x % 40 + b.toNatClampNeg) a.toInt64 S2 else (va_up S2.1 25 2, S2.2)) = S3
      have f3 : (cs v S3).1 25 = S3.1 25 := cs_f (by decide)
      have f4 : (cs v S3).1 28 = S3.1 28 := cs_f (by decide)
      rw [f3, f4]
      by_cases c3 : S3.1 25 = 0
      · rw [if_pos c3, if_pos c3]
      · rw [if_neg c3, if_neg c3]; rfl
    · rw [if_neg c1, if_neg c1]
  · unfold y_sum
    rw [hb, hb']
    have sR : ∀ (n o : Nat) (w : Int32) (T : m_S), T.1 29 = 0 → (y_sumR x o n w T).2 = T := fun n => by
      induction n with
      | zero => intro _ _ _ _; rfl
      | succ n ih =>
        intro o w T ht
        rw [y_sumR]
        split
        · rw [yb0 ht]; exact ih _ _ _ ht
        · exact ih _ _ _ ht
    rw [sR _ _ _ _ h, sR _ _ _ _ (cs_it h)]
theorem cs_work {k : Nat} {a b : Int32} (h : S.1 29 = 0) (hk : k < 22) : (y_work x k a b (cs v S)).2 = cs v (y_work x k a b S).2 := by
  have es : y_sort (cs v S).1 (cs v S).2 x = y_sort S.1 S.2 x := ys_u (by decide)
  have e : (va_up (va_up (cs v S).1 25 0) 28 ((cs v S).2 9 x), (cs v S).2) = cs v (va_up (va_up S.1 25 0) 28 (S.2 9 x), S.2) := by
    unfold cs; dsimp only; rw [up_cs (by decide), up_cs (by decide)]
  unfold y_work
  rw [es, e]
  by_cases c : y_has (y_sort S.1 S.2 x) (nI k) = true
  · rw [if_pos c, if_pos c]
    exact cs_wA (by dsimp only; rw [up_n (by decide), up_n (by decide)]; exact h) hk
  · rw [if_neg c, if_neg c]
    unfold cs; dsimp only; rw [up_cs (by decide), up_cs (by decide), up_cs (by decide)]
theorem cs_wk {k : Nat} (h : S.1 29 = 0) (hk : k < 22) (ek : S.2 36 i = nI k) : (y_wk x0 i (cs v S)).2 = cs v (y_wk x0 i S).2 := by
  have e : y_wk x0 i (cs v S) = y_work (x0 + (S.2 35 i).toNatClampNeg) (S.2 36 i).toNatClampNeg (S.2 37 i) (S.2 38 i) (cs v S) := rfl
  rw [e]
  exact cs_work h (by rw [ek, i_cl (by omega)]; exact hk)
theorem cs_ka1 {k : Nat} (h : S.1 29 = 0) (hk : k < 22) (ek : S.2 36 i = nI k) : y_ka1 i (cs v S) = cs v (y_ka1 i S) := by
  have e := cs_wk (x0 := 40) (v := v) h hk ek
  have e1 := congrArg Prod.fst e
  have e2 := congrArg Prod.snd e
  unfold y_ka1
  rw [e]
  rfl
theorem cs_rd : ∀ (L : List Nat) (b b' : Bool) (S : m_S), w_al 40 y_ka1 L (cs v S) → S.1 29 = 0 → (Rd 40 y_ka1 L b (cs v S)).2 = cs v (Rd 40 y_ka1 L b' S).2
  | [], _, _, _, _, _ => rfl
  | j :: L, b, b', S, hw, h => by
    obtain ⟨o, k, w1, w2, w3, w4, _⟩ := hw.1
    have e := cs_ka1 (v := v) (i := j) h w2 w4
    have hw2 := hw.2
    rw [e] at hw2
    have it : (y_ka1 j S).1 29 = 0 := by
      obtain ⟨s1, s2⟩ := ka_ok j S
      rw [s1]
      exact ((z_frW (x := 40 + (S.2 35 j).toNatClampNeg) (k := (S.2 36 j).toNatClampNeg) (a := S.2 37 j) (b := S.2 38 j) (S := S)).1 _ (by decide) (by decide) (by decide) (by decide) (by decide)).trans h
    rw [Rd, Rd, e]
    exact cs_rd L _ _ _ hw2 it
/-- what can be done again when fewer have come, can be when more have -/
theorem cs_al {m : Nat} (hm : m ≤ 40) : ∀ (L : List Nat) (S : m_S), w_al 40 y_ka1 L (cs v S) → S.1 29 = 0 → S.1 32 = nI m → w_par m S.2 → w_al 40 y_ka1 L S
  | [], _, _, _, _, _ => trivial
  | j :: L, S, hw, h, hc, hp => by
    have hw' := hw.1
    obtain ⟨o, k, w1, w2, w3, w4, w5, w6, w7, w8, w9, w10, w11⟩ := hw'
    have e := cs_ka1 (v := v) (i := j) h w2 w4
    have hw2 := hw.2
    rw [e] at hw2
    obtain ⟨s1, s2⟩ := ka_ok j S
    have zf := (z_frW (x := 40 + (S.2 35 j).toNatClampNeg) (k := (S.2 36 j).toNatClampNeg) (a := S.2 37 j) (b := S.2 38 j) (S := S))
    refine ⟨⟨o, k, w1, w2, w3, w4, by rw [← cs_f (v := v) (S := S) (f := 30) (by decide)]; exact w5, w6, w7, w8, w9, w10, fun _ => ⟨m, hm, hc, hp⟩⟩, cs_al hm L _ hw2 ?_ ?_ ?_⟩
    · rw [s1]; exact (zf.1 _ (by decide) (by decide) (by decide) (by decide) (by decide)).trans h
    · rw [s1]; exact (zf.1 _ (by decide) (by decide) (by decide) (by decide) (by decide)).trans hc
    · unfold w_par
      rw [s2 _ (by decide)]
      have := zf.2.1 5 (by decide) (by decide) (by decide) (by decide) (by decide)
      unfold y_wk
      rw [this]
      exact hp
end VQ
