/-! serial: the reference, row by row -/
section VJ
variable {S S2 : m_S} {n b l nl nw nr na ne c T i t ρ : Nat} {ch : Nat → List Nat} {bb : Bool}
/-- the row of an end: whose it is -/
theorem end_row (hE : I_en b ne nr ch S) (hρ : ρ < nr) (hw : S.2 17 ρ = 4) : ∃ t, 1 ≤ t ∧ t ≤ b ∧ S.2 18 ρ = nI t ∧ S.2 47 t = 3 ∧ S.2 59 t = nI ρ ∧ y_cw (S.2 17) 4 0 ρ < ne ∧ S.2 61 (y_cw (S.2 17) 4 0 ρ + 1) = nI t ∧ S.2 58 t = nI (y_cw (S.2 17) 4 0 ρ + 1) ∧ ∀ j ∈ ch t, ar S.2 j < ρ := by
  obtain ⟨h1, h2, h3, h4, h5, h6, h7⟩ := hE
  have lt : y_cw (S.2 17) 4 0 ρ < ne := by
    have := y_cw_mono (f := S.2 17) (w := 4) (i := 0) (show ρ + 1 ≤ nr by omega)
    rw [y_cw_s, Nat.zero_add, if_pos hw, h3] at this
    omega
  obtain ⟨t, ρ', a1, a2, a3, a4, a5, a6, a7, a8, a9, b1, b2⟩ := h4 _ lt
  have e : ρ' = ρ := by
    by_cases c1 : ρ' < ρ
    · have := y_cw_mono (f := S.2 17) (w := 4) (i := 0) (show ρ' + 1 ≤ ρ by omega)
      rw [y_cw_s, Nat.zero_add, if_pos a8] at this
      omega
    · by_cases c2 : ρ < ρ'
      · have := y_cw_mono (f := S.2 17) (w := 4) (i := 0) (show ρ + 1 ≤ ρ' by omega)
        rw [y_cw_s, Nat.zero_add, if_pos hw] at this
        omega
      · omega
  subst e
  exact ⟨t, a2, a3, a9, a4, a6, lt, a1, a5, b2⟩
/-- acts ahead of a row speak of objects made ahead of it -/
theorem act_aok (hL : I_lg n b nr na ch S) (h1 : 1 ≤ t) (h2 : t ≤ b) (hu : undw S.2 t ∨ S.2 47 t = 3) (ha : ∀ j ∈ ch t, ar S.2 j < ρ) (hρ : ρ ≤ nr) : ∀ q ∈ (ch t).reverse, aok (md S.2 ρ) S.2 q := fun q hq => by
  obtain ⟨g1, g2, g3, g4, g5, g6, g7, g8, g9, g10⟩ := hL
  have n40 := g3.1
  obtain ⟨c1, c2, c3, c4, c5⟩ := g7 t h1 h2 hu
  obtain ⟨a1, a2, a3, a4, a5, a6, a7, a8, a9, b1, b2, b3⟩ := c4 q (List.mem_reverse.mp hq)
  obtain ⟨u, o, k, i1, i2, i3, i4, i5, i6, i7, i8, i9, j1, j2, j3⟩ := (g6 _ a3).2.1 a4
  have mdn : md S.2 (ar S.2 q) ≤ md S.2 ρ := md_mono (by have := ha q (List.mem_reverse.mp hq); omega)
  have mdr : md S.2 ρ ≤ n := by rw [g2]; exact md_mono hρ
  refine ⟨o, k, by omega, i7, by rw [a6]; exact i4, by rw [a7]; exact i6, by rw [a8, a9]; exact i8.mono mdn, fun z => ?_⟩
  rw [a9]
  rcases z with z | z
  · obtain ⟨p, p1, p2, _⟩ := j2 z
    exact ⟨p, by omega, p2⟩
  · obtain ⟨p, p1, _, p2, _⟩ := j3 z
    exact ⟨p, by omega, p2⟩
theorem md_s0 (h : S.2 17 i = 0) : md S.2 (i + 1) = md S.2 i + 1 := by unfold md; rw [y_cw_s, Nat.zero_add, if_pos h]
theorem md_sn (h : ¬ S.2 17 i = 0) : md S.2 (i + 1) = md S.2 i := by unfold md; rw [y_cw_s, Nat.zero_add, if_neg h, Nat.add_zero]
def fp_zF : List Nat := [32, 25, 28, 26, 27]
def fp_zA : List Nat := [9, 10, 11, 12, 100]
/-- the reference in the midst of serial -/
def JR (S : m_S) (i : Nat) (S2 : m_S) : Prop := S2.1 32 = nI (md S.2 i) ∧ (∀ f, f ∉ fp_zF → S2.1 f = S.1 f) ∧ (∀ f, f ∉ fp_zA → S2.2 f = S.2 f) ∧ elS 80 40 S.2 S2.2 ∧ w_sz S2.2
def st80 (i : Nat) (S : m_S) : m_S := (y_wk 80 i S).2
/-- the acts of t again -/
def Q80 (ch : Nat → List Nat) (t : Nat) (b : Bool) (S2 : m_S) : Bool × m_S := Rd 80 st80 (ch t).reverse b (S2.1, va_up S2.2 100 (y_ord (fun j => (ch t).getD j 0) (ch t).length (S2.2 100)))
theorem elS.le {x0 n m : Nat} {A A' : m_A} (h : elS x0 n A A') (hm : n ≤ m) : elS x0 m A A' := ⟨fun i hi => h.1 i (by omega), fun i hi => h.2 i (by omega)⟩
theorem sr_made (hI : I_all n b l nl nw nr na ne ch 0 c T S) (hi : i < nr) (h : JR S i S2) (hw : S.2 17 i = 0) : r_sr1 i bb S2 bb (y_sr0 i S2) ∧ JR S (i + 1) (y_sr0 i S2) ∧ asM 80 (md S.2 i) (S.2 6 (md S.2 i)) S2.2 (y_sr0 i S2).2 := by
  obtain ⟨j1, j2, j3, j4, j5⟩ := h
  have n40 := hI.1.2.2.1.1
  have mn : md S.2 i < n := by
    rw [hI.1.2.1]
    have := md_mono (A := S.2) (show i + 1 ≤ nr by omega)
    rw [md_s0 hw] at this
    omega
  have w2 : S2.2 17 i = 0 := by rw [j3 _ (by decide)]; exact hw
  have ey : y_sr0 i S2 = (va_up S2.1 32 (nI (md S.2 i + 1)), y_asM (80 + md S.2 i) (S.2 6 (md S.2 i)) S2.2) := by
    unfold y_sr0
    rw [if_pos w2, j1, i_cl (by omega), i_a1, j3 6 (by decide)]
  rw [ey]
  have am := asM_y (x0 := 80) (n := md S.2 i) (vm := S.2 6 (md S.2 i)) (A := S2.2)
  refine ⟨⟨fun _ => ⟨md S.2 i, by omega, j1⟩, by dsimp only; rw [up_n (by decide)], Or.inl ⟨by rw [w2]; decide, rfl, ey.symm⟩⟩, ⟨by dsimp only; rw [up_s, md_s0 hw], fun f hf => by dsimp only; rw [up_n (nmem hf (by decide))]; exact j2 f hf, fun f hf => ?_, j4.tr ⟨fun x hx => am.2.2.2.1 x (by omega), fun x _ => by dsimp only; rw [am.2.2.2.2.1]⟩, fun x hx => ?_⟩, am⟩
  · dsimp only
    unfold y_asM
    rw [up_n (nmem hf (by decide)), up_n (nmem hf (by decide)), up_n (nmem hf (by decide))]
    exact j3 f hf
  · by_cases cx : x = 80 + md S.2 i
    · subst cx; dsimp only; rw [am.2.2.2.2.2.2.1]; exact ⟨0, by omega, rfl⟩
    · dsimp only; rw [(am.2.2.2.1 x cx).2.1]; exact j5 x hx
theorem sr_none (h : JR S i S2) (h0 : ¬ S.2 17 i = 0) (h4 : ¬ S.2 17 i = 4) : r_sr1 i bb S2 bb S2 ∧ JR S (i + 1) S2 := by
  obtain ⟨j1, j2, j3, j4, j5⟩ := h
  have e := j3 17 (by decide)
  have ey : y_sr0 i S2 = S2 := by unfold y_sr0; rw [if_neg (by rw [e]; exact h0)]
  exact ⟨⟨fun z => absurd (by rw [e] at z; exact z) h0, rfl, Or.inl ⟨by rw [e]; exact h4, rfl, ey.symm⟩⟩, by rw [md_sn h0]; exact j1, j2, j3, j4, j5⟩
theorem sr_end (hI : I_all n b l nl nw nr na ne ch 0 c T S) (hi : i < nr) (h : JR S i S2) (hw : S.2 17 i = 4) (hs : Hs (md S.2 i) S2.2 80) (h1 : 1 ≤ t) (h2 : t ≤ b) (et : S.2 18 i = nI t) (st : S.2 47 t = 3) (ha : ∀ j ∈ ch t, ar S.2 j < i) :
    r_sr1 i bb S2 (Q80 ch t bb S2).1 (Q80 ch t bb S2).2 ∧ JR S (i + 1) (Q80 ch t bb S2).2 ∧ Hs (md S.2 (i + 1)) (Q80 ch t bb S2).2.2 80 := by
  have hj := h
  obtain ⟨j1, j2, j3, j4, j5⟩ := h
  have b400 := hI.2.1.1
  have na6 := hI.1.2.2.2.2.1
  obtain ⟨hch1, hch2, hch3, hch4, hch5⟩ := hI.1.2.2.2.2.2.2.1 t h1 h2 (Or.inr st)
  have n0 : ¬ S.2 17 i = 0 := by rw [hw]; decide
  have e := j3 17 (by decide)
  have ey : y_sr0 i S2 = S2 := by unfold y_sr0; rw [if_neg (by rw [e]; exact n0)]
  have mdn : md S.2 i ≤ n := by rw [hI.1.2.1]; exact md_mono (by omega)
  have hob : R_ob (md S.2 i) S.2 := hI.1.2.2.1.le mdn
  obtain ⟨tq, tq1, tq2⟩ := hI.2.2.2.2.2.1.2.2.2.1
  have hit0 : S.1 29 = 0 := hI.2.2.2.2.2.1.2.2.1
  have n40 := hI.1.2.2.1.1
  have hS' : ∀ f, f ≠ 100 → (va_up S2.2 100 (y_ord (fun j => (ch t).getD j 0) (ch t).length (S2.2 100))) f = S2.2 f := fun f hf => up_n hf
  have rd := Hs.rd (A0 := S.2) (st := st80) (x0 := 80) hob (Or.inr (Or.inr rfl)) sa_ok (ch t).reverse bb (S2.1, va_up S2.2 100 (y_ord (fun j => (ch t).getD j 0) (ch t).length (S2.2 100))) (act_aok hI.1 h1 h2 (Or.inr st) ha (by omega))
    (by
      obtain ⟨P, hP⟩ := hs
      exact ⟨P, hP.keep (fun _ _ _ _ => rfl) (fun _ _ => rfl) (hS' 4 (by decide)) (hS' 5 (by decide)) (hS' 7 (by decide)) (fun _ _ => ⟨by dsimp only; rw [hS' 9 (by decide)], by dsimp only; rw [hS' 10 (by decide)], by dsimp only; rw [hS' 11 (by decide)]⟩) (fun _ _ _ => by dsimp only; rw [hS' 12 (by decide)])⟩)
    (fun f hf => by dsimp only; rw [hS' f (by clear j2 j3 hS'; revert f; decide)]; exact j3 f (by clear j2 j3 hS'; revert f; decide)) (by dsimp only; rw [j2 _ (by decide)]; exact hit0) j1 (by dsimp only; rw [j2 _ (by decide), tq2]; exact nI_pos' (by omega)) (fun x hx => by dsimp only; rw [hS' _ (by decide)]; exact j5 x hx)
  obtain ⟨w1, w2, w3, w4⟩ := rd
  have fr := Rd_fr sa_ok (ch t).reverse bb (S2.1, va_up S2.2 100 (y_ord (fun j => (ch t).getD j 0) (ch t).length (S2.2 100)))
  have t0 := T0_Rd sa_ok (ch t).reverse bb (S2.1, va_up S2.2 100 (y_ord (fun j => (ch t).getD j 0) (ch t).length (S2.2 100))) w1 (T0.rf (by dsimp only; rw [j2 _ (by decide)]; exact hit0))
  have sal : (Q80 ch t bb S2) = y_saL (fun j => (ch t).getD j 0) (ch t).length bb (S2.1, va_up S2.2 100 (y_ord (fun j => (ch t).getD j 0) (ch t).length (S2.2 100))) := by
    unfold Q80
    rw [← revr_rev]
    exact Rd_sa _ _ _
  have cn := chn_cn (hI.1.2.2.2.2.2.2.1 t h1 h2 (Or.inr st)) na6
  have isW : ∀ f, f ≠ 31 → f ≠ 9 → f ≠ 10 → f ≠ 11 → f ≠ 12 → (Q80 ch t bb S2).2.2 f = (va_up S2.2 100 (y_ord (fun j => (ch t).getD j 0) (ch t).length (S2.2 100))) f := fun f h1 h2 h3 h4 h5 => by
    have : ∀ (L : List Nat) (b : Bool) (S : m_S), (Rd 80 st80 L b S).2.2 f = S.2 f := fun L => by
      induction L with
      | nil => intro _ _; rfl
      | cons q L ih =>
        intro b S
        rw [Rd, ih]
        exact (z_frW (x := 80 + (S.2 35 q).toNatClampNeg) (k := (S.2 36 q).toNatClampNeg) (a := S.2 37 q) (b := S.2 38 q) (S := S)).2.1 f h1 h2 h3 h4 h5
    exact this _ _ _
  have jF : ∀ f, f ∉ fp_zF → (Q80 ch t bb S2).2.1 f = S.1 f := fun f hf => by
    by_cases ct : f = 30
    · subst ct
      exact t0.2.1.trans (j2 _ (by decide))
    · exact (fr.1 f (nmem hf (by decide)) (nmem hf (by decide)) (nmem hf (by decide)) (nmem hf (by decide)) ct).trans (j2 f hf)
  refine ⟨⟨fun z => absurd (by rw [e] at z; exact z) n0, ?_, Or.inr ⟨by rw [e]; exact hw, t, (ch t).length, fun j => (ch t).getD j 0, by omega, by omega, ?_, ?_, ?_, ?_, ?_⟩⟩, ⟨?_, jF, fun f hf => ?_, ?_, w4⟩, by rw [md_sn n0]; exact w2⟩
  · rw [jF _ (by decide), j2 _ (by decide)]
  · rw [ey, j3 _ (by decide)]; exact et
  · rw [ey, j3 _ (by decide)]; exact hch1
  · rw [ey]
    obtain ⟨q1, q2, q3⟩ := cn
    exact ⟨fun z => by rw [j3 _ (by decide)]; exact q1 z, q2, fun j hj => by rw [j3 _ (by decide)]; exact q3 j hj⟩
  · rw [ey]
    rw [← revr_rev] at w1
    exact w_sa _ _ cn.2.1 w1
  · rw [ey, ← sal]
  · rw [md_sn n0]
    exact (fr.1 _ (by decide) (by decide) (by decide) (by decide) (by decide)).trans j1
  · by_cases cb : f = 31
    · subst cb
      exact t0.2.2.trans ((hS' 31 (by decide)).trans (j3 31 (by decide)))
    · rw [isW f cb (nmem hf (by decide)) (nmem hf (by decide)) (nmem hf (by decide)) (nmem hf (by decide)), hS' f (nmem hf (by decide))]
      exact j3 f hf
  · refine j4.tr (elS.tr (A' := va_up S2.2 100 (y_ord (fun j => (ch t).getD j 0) (ch t).length (S2.2 100))) ⟨fun x _ => ⟨by rw [hS' _ (by decide)], by rw [hS' _ (by decide)], by rw [hS' _ (by decide)]⟩, fun x _ => by rw [hS' _ (by decide)]⟩ (w3.le (by omega)))
/-- false stays false -/
theorem Rd_f {x0 : Nat} {st : Nat → m_S → m_S} : ∀ (L : List Nat) (S : m_S), (Rd x0 st L false S).1 = false
  | [], _ => rfl
  | i :: L, S => by rw [Rd, Bool.false_and]; exact Rd_f L _
/-- the rest of the rows, in thought -/
theorem sr_ex (hI : I_all n b l nl nw nr na ne ch 0 c T S) : ∀ (k i : Nat) (bb : Bool) (S2 : m_S), i + k = nr → JR S i S2 → Hs (md S.2 i) S2.2 80 → ∃ b' S', r_sr i k bb S2 b' S' ∧ JR S nr S' ∧ (bb = false → b' = false)
  | 0, i, bb, S2, hi, hj, _ => ⟨bb, S2, ⟨rfl, rfl⟩, by rw [← show i = nr by omega]; exact hj, id⟩
  | k + 1, i, bb, S2, hi, hj, hh => by
    by_cases c0 : S.2 17 i = 0
    · obtain ⟨a1, a2, a3⟩ := sr_made (bb := bb) hI (by omega) hj c0
      have vo := (row_vm (hI.1.2.2.2.2.2.1 i (by omega)) c0).2.2.2.1
      have es : S2.2 4 = S.2 4 := hj.2.2.1 _ (by decide)
      obtain ⟨b', S', r1, r2, r3⟩ := sr_ex hI k (i + 1) bb _ (by omega) a2 (by rw [md_s0 c0]; exact hh.put a3 (by rw [es]; exact vo))
      exact ⟨b', S', ⟨_, _, a1, r1⟩, r2, r3⟩
    · by_cases c4 : S.2 17 i = 4
      · obtain ⟨t, t1, t2, t3, t4, t5, t6, t7, t8, t9⟩ := end_row hI.2.2.1 (show i < nr by omega) c4
        obtain ⟨a1, a2, a3⟩ := sr_end (bb := bb) hI (by omega) hj c4 hh t1 t2 t3 t4 t9
        obtain ⟨b', S', r1, r2, r3⟩ := sr_ex hI k (i + 1) (Q80 ch t bb S2).1 _ (by omega) a2 a3
        exact ⟨b', S', ⟨_, _, a1, r1⟩, r2, fun z => r3 (by rw [z]; exact Rd_f _ _)⟩
      · obtain ⟨a1, a2⟩ := sr_none (bb := bb) hj c0 c4
        obtain ⟨b', S', r1, r2, r3⟩ := sr_ex hI k (i + 1) bb S2 (by omega) a2 (by rw [md_sn c0]; exact hh)
        exact ⟨b', S', ⟨_, _, a1, r1⟩, r2, r3⟩
end VJ
