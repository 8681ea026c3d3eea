/-! rings: the same ring in both -/
section SR
variable {V W : Nat → Nat → Bool} {lv : Nat → Nat} {l s h a : Nat} {L : List Nat} {fr f : Nat → Int32} {π : Nat → Nat}
theorem ring_none (hl : l ≤ 12) (hW : ∀ a b, a < l → b < l → V a b = W (lv a) (lv b)) (inj : ∀ i j, i < l → j < l → lv i = lv j → i = j) (hB : BI V l s L.length L fr π) : ∀ (d a : Nat), a ∈ L → ¬ wk W lv l (lv s) (d + 1) (lv a) := by
  obtain ⟨⟨b1, b2, b3, b4, b5, b6, b7⟩, g1, g2⟩ := hB
  have sl : s < l := b2 s (List.mem_of_getElem? b3)
  intro d
  induction d with
  | zero =>
    rintro a ha ⟨i, i1, i2, i3⟩
    obtain ⟨j, hj, ej⟩ := List.getElem_of_mem ha
    have := (g2 j a hj (by rw [List.getElem?_eq_getElem hj, ej])).1
    have ei : i = s := inj i s i1 sl i3
    rw [hW a s (b2 a ha) sl, ← ei, i2] at this
    cases this
  | succ d ih =>
    rintro a ha ⟨i, i1, i2, i3⟩
    obtain ⟨j, hj, ej⟩ := List.getElem_of_mem ha
    obtain ⟨k, k1, _⟩ := (g2 j a hj (by rw [List.getElem?_eq_getElem hj, ej])).2 i (by omega) (by rw [hW a i (b2 a ha) i1]; exact i2)
    exact ih i (List.mem_of_getElem? k1) i3
def it (π : Nat → Nat) : Nat → Nat → Nat
  | 0, i => i
  | n + 1, i => π (it π n i)
theorem ring_some (hl : l ≤ 12) (hW : ∀ a b, a < l → b < l → V a b = W (lv a) (lv b)) (inj : ∀ i j, i < l → j < l → lv i = lv j → i = j) (hB : BI V l s h L fr π) (ha : L[h]? = some a) (hv : V a s = true) :
    ∃ (r : Nat) (x : Nat → Nat), r < 12 ∧ x 0 = s ∧ x r = a ∧ (∀ j, j ≤ r → x j < l) ∧ (∀ j, 0 < j → j ≤ r → ¬ x j = s ∧ fr (x j) = nI (x (j - 1))) ∧ fr s = -1 ∧
      ∀ j, j ≤ r → y_near W lv (y_far W lv l (lv s) f) (lv (x j)) 0 l none = some (if j < r then lv (x (j + 1)) else lv s) := by
  obtain ⟨⟨b1, b2, b3, b4, b5, b6, b7⟩, g1, g2⟩ := hB
  have sl : s < l := b2 s (List.mem_of_getElem? b3)
  have hhl : h < L.length := (List.getElem?_eq_some_iff.mp ha).1
  have Ll : L.length ≤ l := by
    have := sub_len L (List.range l) b1 (fun z hz => by rw [List.mem_range]; exact b2 z hz)
    rw [List.length_range] at this
    exact this
  have hp : ∀ i, 0 < i → i < L.length → π i < i := fun i h0 hi => (b5 i _ h0 (List.getElem?_eq_getElem hi)).1
  have ml : ∀ i y, L[i]? = some y → i < L.length ∧ y < l := fun i y hy => ⟨(List.getElem?_eq_some_iff.mp hy).1, b2 y (List.mem_of_getElem? hy)⟩
  have Dm : ∀ i j, i ≤ j → j < L.length → D π i ≤ D π j := fun i j => D_mono hp b6 j i j (Nat.le_refl _)
  -- what an edge of one whose turn was leads to
  have edge : ∀ i y b, i < h → L[i]? = some y → b < l → W (lv y) (lv b) = true → ∃ k, L[k]? = some b ∧ (k = 0 ∨ π k ≤ i) ∧ D π k ≤ D π i + 1 := fun i y b hi hy hb hw => by
    obtain ⟨k, k1, k2⟩ := (g2 i y hi hy).2 b (by omega) (by rw [hW y b (ml i y hy).2 hb]; exact hw)
    refine ⟨k, k1, k2, ?_⟩
    by_cases c : k = 0
    · rw [c, D_0]; exact Nat.zero_le _
    · rcases k2 with z | z
      · exact absurd z c
      · rw [D_s hp (by omega) (ml k b k1).1]
        have := Dm (π k) i z (ml i y hy).1
        omega
  have noS : ∀ i y, i < h → L[i]? = some y → ¬ W (lv y) (lv s) = true := fun i y hi hy hw => by
    have := (g2 i y hi hy).1
    rw [hW y s (ml i y hy).2 sl, hw] at this
    cases this
  have K4 : ∀ d i y, L[i]? = some y → wk W lv l (lv s) (d + 1) (lv y) → D π h + 1 ≤ D π i + (d + 1) := by
    intro d
    induction d with
    | zero =>
      rintro i y hy ⟨j, j1, j2, j3⟩
      have ej : j = s := inj j s j1 sl j3
      subst ej
      by_cases c : i < h
      · exact absurd j2 (noS i y c hy)
      · have := Dm h i (by omega) (ml i y hy).1
        omega
    | succ d ih =>
      rintro i y hy ⟨j, j1, j2, j3⟩
      by_cases c : i < h
      · obtain ⟨k, k1, k2, k3⟩ := edge i y j c hy j1 j2
        have := ih k j k1 j3
        omega
      · have := Dm h i (by omega) (ml i y hy).1
        omega
  -- the way back in the tree
  have Dh : D π h ≤ h := D_le hp h h (Nat.le_refl _) hhl
  have itp : ∀ n, n ≤ D π h → it π n h ≤ h ∧ D π (it π n h) = D π h - n := by
    intro n
    induction n with
    | zero => intro _; exact ⟨Nat.le_refl _, rfl⟩
    | succ n ih =>
      intro hn
      obtain ⟨q1, q2⟩ := ih (by omega)
      have h0 : 0 < it π n h := by
        by_cases c : it π n h = 0
        · rw [c, D_0] at q2; omega
        · omega
      have q3 := D_s hp h0 (show it π n h < L.length by omega)
      have q4 := hp _ h0 (show it π n h < L.length by omega)
      rw [it]
      exact ⟨by omega, by omega⟩
  have cP : ∀ j, j ≤ D π h → it π (D π h - j) h ≤ h ∧ D π (it π (D π h - j) h) = j := fun j hj => by
    obtain ⟨q1, q2⟩ := itp (D π h - j) (by omega)
    exact ⟨q1, by omega⟩
  have cN : ∀ j, j < D π h → π (it π (D π h - (j + 1)) h) = it π (D π h - j) h := fun j hj => by
    rw [show D π h - j = (D π h - (j + 1)) + 1 by omega]; rfl
  have c0 : it π (D π h - 0) h = 0 := by
    have q := (cP 0 (Nat.zero_le _)).2
    have q1 := (cP 0 (Nat.zero_le _)).1
    by_cases c : it π (D π h - 0) h = 0
    · exact c
    · rw [D_s hp (by omega) (by omega)] at q; omega
  have cr : it π (D π h - D π h) h = h := by rw [Nat.sub_self]; rfl
  generalize hcc : (fun j => it π (D π h - j) h) = cc at *
  have cce : ∀ j, it π (D π h - j) h = cc j := fun j => by rw [← hcc]
  simp only [cce] at cP cN c0 cr
  have xg : ∀ j, j ≤ D π h → L[cc j]? = some (L.getD (cc j) 0) := fun j hj => by
    have := (cP j hj).1
    rw [List.getD_eq_getElem?_getD, List.getElem?_eq_getElem (by omega)]
    rfl
  generalize hx : (fun j => L.getD (cc j) 0) = x at *
  have xe : ∀ j, L.getD (cc j) 0 = x j := fun j => by rw [← hx]
  simp only [xe] at xg
  have xl : ∀ j, j ≤ D π h → x j < l := fun j hj => (ml _ _ (xg j hj)).2
  have x0 : x 0 = s := by
    have := xg 0 (Nat.zero_le _)
    rw [c0, b3] at this
    exact (Option.some.inj this).symm
  have xr : x (D π h) = a := by
    have := xg (D π h) (Nat.le_refl _)
    rw [cr, ha] at this
    exact (Option.some.inj this).symm
  have cpos : ∀ j, 0 < j → j ≤ D π h → 0 < cc j := fun j h0 hj => by
    by_cases c : cc j = 0
    · have := (cP j hj).2
      rw [c, D_0] at this; omega
    · omega
  have step : ∀ j, j < D π h → W (lv (x j)) (lv (x (j + 1))) = true ∧ fr (x (j + 1)) = nI (x j) := fun j hj => by
    obtain ⟨_, _, a', q1, q2, q3⟩ := b5 (cc (j + 1)) _ (cpos (j + 1) (by omega) (by omega)) (xg (j + 1) (by omega))
    rw [cN j hj, xg j (by omega)] at q1
    have := Option.some.inj q1
    subst this
    exact ⟨by rw [← hW _ _ (xl j (by omega)) (xl (j + 1) (by omega))]; exact q2, q3⟩
  have last : W (lv (x (D π h))) (lv s) = true := by rw [xr, ← hW a s (ml h a ha).2 sl]; exact hv
  have walk : ∀ n j, j + n = D π h → wk W lv l (lv s) (n + 1) (lv (x j)) := by
    intro n
    induction n with
    | zero => intro j hj; rw [show j = D π h by omega]; exact ⟨s, sl, last, rfl⟩
    | succ n ih => intro j hj; exact ⟨x (j + 1), xl _ (by omega), (step j (by omega)).1, ih (j + 1) (by omega)⟩
  have first : ∀ n j, j + n = D π h → ∀ i y, L[i]? = some y → D π i = j → wk W lv l (lv s) (n + 1) (lv y) → cc j ≤ i := by
    intro n
    induction n with
    | zero =>
      rintro j hj i y hy hD ⟨k, k1, k2, k3⟩
      have ek : k = s := inj k s k1 sl k3
      subst ek
      rw [show j = D π h by omega, cr]
      by_cases c : i < h
      · exact absurd k2 (noS i y c hy)
      · omega
    | succ n ih =>
      rintro j hj i y hy hD ⟨k, k1, k2, k3⟩
      by_cases c : cc j ≤ i
      · exact c
      · exfalso
        have hi : i < h := by have := (cP j (by omega)).1; omega
        obtain ⟨m, m1, m2, m3⟩ := edge i y k hi hy k1 k2
        have q := K4 n m k m1 k3
        have hm0 : m ≠ 0 := fun z => by rw [z, D_0] at q; omega
        have mi : π m ≤ i := m2.resolve_left hm0
        have := ih (j + 1) (by omega) m k m1 (by omega) k3
        have mono := b6 (cc (j + 1)) m (cpos (j + 1) (by omega) (by omega)) this (ml m k m1).1
        rw [cN j (by omega)] at mono
        omega
  refine ⟨D π h, x, by omega, x0, xr, xl, fun j h0 hj => ⟨fun z => ?_, ?_⟩, b4, fun j hj => ?_⟩
  · have e1 := xg j hj
    rw [z] at e1
    have := idx_inj b1 e1 b3
    have := cpos j h0 hj
    omega
  · have := (step (j - 1) (by omega)).2
    rw [show j - 1 + 1 = j by omega] at this
    exact this
  · have ph : ∀ i, i < l → (y_far W lv l (lv s) f (lv i)).toNatClampNeg ≤ 99 ∧ y_far W lv l (lv s) f (lv i) = nI (y_far W lv l (lv s) f (lv i)).toNatClampNeg ∧ ((y_far W lv l (lv s) f (lv i)).toNatClampNeg < 99 → wk W lv l (lv s) (y_far W lv l (lv s) f (lv i)).toNatClampNeg (lv i)) ∧ ∀ d', d' ≤ l → wk W lv l (lv s) d' (lv i) → (y_far W lv l (lv s) f (lv i)).toNatClampNeg ≤ d' := fun i hi => by
      obtain ⟨d, q1, q2, q3, q4⟩ := far_ok (W := W) (lv := lv) (t := lv s) inj (f := f) hi
      have e : (y_far W lv l (lv s) f (lv i)).toNatClampNeg = d := by rw [q2, i_cl (by omega)]
      rw [e]
      exact ⟨q1, q2, q3, q4⟩
    have nb := near_ok (W := W) (u := lv (x j)) (f := y_far W lv l (lv s) f) (φ := fun i => (y_far W lv l (lv s) f (lv i)).toNatClampNeg) (fun i hi => ⟨(ph i hi).1, (ph i hi).2.1⟩) l 0 none (by omega) ⟨fun _ k hk => by omega, fun v hv => by cases hv⟩
    generalize y_far W lv l (lv s) f = F at *
    generalize hφ : (fun i => (F (lv i)).toNatClampNeg) = φ at *
    have φe : ∀ i, (F (lv i)).toNatClampNeg = φ i := fun i => by rw [← hφ]
    simp only [φe] at ph
    by_cases cj : j < D π h
    · rw [if_pos cj]
      have hcj : cc j < h := by
        have q := cP j hj
        by_cases c : cc j = h
        · rw [c] at q; omega
        · omega
      have zl := xl (j + 1) (by omega)
      have hz := (step j cj).1
      have φz := (ph _ zl).2.2.2 (D π h - (j + 1) + 1) (by omega) (walk (D π h - (j + 1)) (j + 1) (by omega))
      cases e : y_near W lv F (lv (x j)) 0 l none with
      | none =>
        have := nb.1 e (x (j + 1)) zl hz
        omega
      | some v =>
        obtain ⟨i, i1, i2, i3, i4, i5, i6⟩ := nb.2 v e
        have le := i5 (x (j + 1)) zl hz
        have ins : i ≠ s := fun z => noS (cc j) (x j) hcj (xg j hj) (by rw [← z]; exact i3)
        have hw := (ph i i1).2.2.1 i4
        obtain ⟨k, k1, k2, k3⟩ := edge (cc j) (x j) i hcj (xg j hj) i1 i3
        rw [(cP j hj).2] at k3
        have φ0 : φ i ≠ 0 := fun z => by
          rw [z] at hw
          exact ins (inj i s i1 sl hw)
        have hw' : wk W lv l (lv s) (φ i - 1 + 1) (lv i) := by rw [show φ i - 1 + 1 = φ i by omega]; exact hw
        have q := K4 (φ i - 1) k i k1 hw'
        have eφ : φ i = D π h - j := by omega
        have eD : D π k = j + 1 := by omega
        have hk0 : k ≠ 0 := fun z => by rw [z, D_0] at eD; omega
        have hwi : wk W lv l (lv s) (D π h - (j + 1) + 1) (lv i) := by rw [show D π h - (j + 1) + 1 = φ i by omega]; exact hw
        have f1 := first (D π h - (j + 1)) (j + 1) (by omega) k i k1 eD hwi
        have ei : i = x (j + 1) := by
          rcases Nat.lt_trichotomy i (x (j + 1)) with c | c | c
          · exfalso
            obtain ⟨p1, p2, y', p3, p4, p5⟩ := b5 k i (by omega) k1
            have eDp : D π (π k) = j := by
              have := D_s hp (by omega) (ml k i k1).1
              omega
            have wy : wk W lv l (lv s) (D π h - j + 1) (lv y') := ⟨i, i1, by rw [← hW y' i (ml _ _ p3).2 i1]; exact p4, by rw [← eφ]; exact hw⟩
            have f2 := first (D π h - j) j (by omega) (π k) y' p3 eDp wy
            have pk := k2.resolve_left hk0
            have eπ : π (cc (j + 1)) = π k := by rw [cN j cj]; omega
            have nk : cc (j + 1) ≠ k := fun z => by
              have := xg (j + 1) (by omega)
              rw [z, k1] at this
              have := Option.some.inj this
              omega
            have := b7 (cc (j + 1)) k (x (j + 1)) i (cpos (j + 1) (by omega) (by omega)) (by omega) (xg (j + 1) (by omega)) k1 eπ
            omega
          · exact c
          · exfalso
            have := i6 (x (j + 1)) c hz
            omega
        rw [i2, ei]
    · rw [if_neg cj]
      have ej : j = D π h := by omega
      subst ej
      have φz := (ph s sl).2.2.2 0 (Nat.zero_le _) rfl
      cases e : y_near W lv F (lv (x (D π h))) 0 l none with
      | none =>
        have := nb.1 e s sl last
        omega
      | some v =>
        obtain ⟨i, i1, i2, i3, i4, i5, i6⟩ := nb.2 v e
        have le := i5 s sl last
        have hw := (ph i i1).2.2.1 i4
        rw [show φ i = 0 by omega] at hw
        have hw : lv i = lv s := hw
        rw [i2, hw]
end SR
