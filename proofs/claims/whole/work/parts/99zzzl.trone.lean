/-! tried: both ways round on one small one -/
section VO
variable {P P' P0 : k_P} {S S' S'' : m_S} {A : m_A} {t t0 t1 p i n o k k2 : Nat} {s f a f' a' b a2 : Int32}
def FX (S S' : m_S) : Prop := (∀ f, f ∉ fp_xF → S'.1 f = S.1 f) ∧ (∀ f, f ∉ fp_xA → S'.2 f = S.2 f) ∧ (∀ x, x < 120 → S'.2 9 x = S.2 9 x ∧ S'.2 10 x = S.2 10 x ∧ S'.2 11 x = S.2 11 x) ∧ (∀ x, x < 960 → S'.2 12 x = S.2 12 x) ∧ w_sz S'.2
theorem FX.rf (h : w_sz S.2) : FX S S := ⟨fun _ _ => rfl, fun _ _ => rfl, fun _ _ => ⟨rfl, rfl, rfl⟩, fun _ _ => rfl, h⟩
theorem FX.tr (h : FX S S') (k : FX S' S'') : FX S S'' := ⟨fun f hf => (k.1 f hf).trans (h.1 f hf), fun f hf => (k.2.1 f hf).trans (h.2.1 f hf), fun x hx => ⟨(k.2.2.1 x hx).1.trans (h.2.2.1 x hx).1, (k.2.2.1 x hx).2.1.trans (h.2.2.1 x hx).2.1, (k.2.2.1 x hx).2.2.trans (h.2.2.1 x hx).2.2⟩, fun x hx => (k.2.2.2.1 x hx).trans (h.2.2.2.1 x hx), k.2.2.2.2⟩
theorem FX.lay (h : w_sz S.2) : FX S (y_lay s i S) := by
  refine ⟨fun f hf => ?_, fun f hf => lay_A (fun z => hf (by unfold fp_xA; simp only [List.mem_cons, List.not_mem_nil, or_false] at z ⊢; omega)), fun x hx => lay_x (by omega), fun x hx => lay_i (by omega), fun x hx => ?_⟩
  · unfold y_lay
    dsimp only
    rw [up_n (nmem hf (by decide))]
  · by_cases c : x = 120
    · rw [c]; exact y_lyS
    · rw [(lay_x c).2.1]; exact h x hx
theorem FX.copy (h : w_sz S.2) : FX S (S.1, y_copy 120 121 S.2) := by
  refine ⟨fun f hf => rfl, fun f hf => cpy_A (fun z => hf (by unfold fp_xA; simp only [List.mem_cons, List.not_mem_nil, or_false] at z ⊢; omega)), fun x hx => cpy_x (by omega), fun x hx => cpy_i (by omega), fun x hx => ?_⟩
  by_cases c : x = 121
  · subst c
    obtain ⟨z, z1, z2⟩ := h 120 (by omega)
    refine ⟨z, z1, ?_⟩
    dsimp only
    unfold y_copy
    simp (decide := true) only [up_n, up_s, ne_eq, not_false_eq_true]
    exact z2
  · dsimp only; rw [(cpy_x c).2.1]; exact h x hx
theorem oc_ok {F F' W W' : Int32} (h1 : f = F) (h2 : F = 0 → a = W) (h3 : f = 0 ∨ a = 0) (g1 : f' = F') (g2 : F' = 0 → a' = W') (g3 : f' = 0 ∨ a' = 0) : decide (oc f a = oc f' a') = (decide (F = F') && (decide (¬ F' = 0) || decide (W = W'))) := by
  subst h1
  subst g1
  rw [Bool.eq_iff_iff, decide_eq_true_eq, oc_iff, Bool.and_eq_true, Bool.or_eq_true, decide_eq_true_eq, decide_eq_true_eq, decide_eq_true_eq]
  constructor
  · rintro ⟨rfl, e⟩
    refine ⟨rfl, ?_⟩
    by_cases c : f = 0
    · exact Or.inr (by rw [← h2 c, ← g2 c]; exact e)
    · exact Or.inl c
  · rintro ⟨rfl, e⟩
    refine ⟨rfl, ?_⟩
    by_cases c : f = 0
    · rw [h2 c, g2 c]; exact e.resolve_left (fun z => z c)
    · rw [h3.resolve_left c, g3.resolve_left c]
/-- one act on a small one -/
theorem tr_wk (hv : R_vl P t S.2 120 s) (hs : P.1 220 t = s) (hy : S.1 8 = s) (hit : S.1 29 = 0) (ne : t ≠ p) (hk : k < 18) (hh : y_has s (nI k) = true) (har : ar_R n o k a b) (hz : w_sz S.2) :
    R_vl (k_run (k_clear P p) t p (nI k) a b) t (y_work 120 k a b S).2.2 120 s ∧ (k_run (k_clear P p) t p (nI k) a b).1 101 p = (y_work 120 k a b S).2.1 25 ∧ ((y_work 120 k a b S).2.1 25 = 0 → (k_run (k_clear P p) t p (nI k) a b).1 100 p = (y_work 120 k a b S).1) ∧ ((k_run (k_clear P p) t p (nI k) a b).1 101 p = 0 ∨ (k_run (k_clear P p) t p (nI k) a b).1 100 p = 0) ∧
    fr_C p t P (k_run (k_clear P p) t p (nI k) a b) ∧ FX S (y_work 120 k a b S).2 ∧ (y_work 120 k a b S).2.1 8 = s ∧ fr_M 120 S (y_work 120 k a b S).2 := by
  have hso : y_sort S.1 S.2 120 = s := hy
  have f1 : fr_C p t P (k_clear P p) := by
    unfold k_clear
    exact (((fr_C.rf.wrp (by decide)).wrp (by decide)).wrp (by decide)).wrp (by decide)
  have f2 : fr_M 120 S (va_up (va_up S.1 25 0) 28 (S.2 9 120), S.2) := fr_M.F (fr_M.F fr_M.rfE (by decide)) (by decide)
  have cf : (k_clear P p).1 101 p = 0 := by unfold k_clear; rw [k_rn (by decide), k_rn (by decide), k_rs]
  have ca : (k_clear P p).1 100 p = 0 := by unfold k_clear; rw [k_rn (by decide), k_rn (by decide), k_rn (by decide), k_rs]
  have c2 : (k_clear P p).2 = P.2 := by unfold k_clear; rfl
  have pre : op_pre p t 120 s (k_clear P p) (va_up (va_up S.1 25 0) 28 (S.2 9 120), S.2) := by
    refine ⟨hv.cg (kcl_1 (by decide) (by decide) (by decide) (by decide)) (by rw [c2]) rfl rfl rfl (fun _ _ => rfl), Or.inl ?_, cf, ?_, (kcl_1 (by decide) (by decide) (by decide) (by decide)).trans hs, ?_, ne⟩
    · dsimp only; rw [up_n (by decide), up_n (by decide)]; exact hit
    · dsimp only; rw [up_n (by decide), up_s]
    · rw [ys_u (by decide), ys_u (by decide)]; exact hso
  have op := (op_run pre f1 f2 (k := k) (a := a) (b := b) (by omega) (by omega) (by omega) (by omega) hh har (by dsimp only; rw [up_s])).1
  have ew : y_work 120 k a b S = y_wA 120 k a b (va_up (va_up S.1 25 0) 28 (S.2 9 120), S.2) := by
    unfold y_work
    rw [hso, if_pos hh]
  rw [← ew] at op
  obtain ⟨o1, o2, o3, o4, o5, o6⟩ := op
  have t0 : T0 S (y_work 120 k a b S).2 := tr_w (by omega) (T0.rf hit)
  refine ⟨o3, o5, o6, ans0 ca cf, o1, ⟨fun f hf => ?_, fun f hf => ?_, fun x hx => o2.2.1 x (by omega), fun x hx => o2.2.2 x (by omega), fun x hx => ?_⟩, ?_, o2⟩
  · by_cases c : f = 30
    · subst c; exact t0.2.1
    · exact o2.1.1 f (nmem hf (by decide)) (nmem hf (by decide)) (nmem hf (by decide)) (nmem hf (by decide)) c
  · by_cases c : f = 31
    · subst c; exact t0.2.2
    · exact o2.1.2.1 f c (nmem hf (by decide)) (nmem hf (by decide)) (nmem hf (by decide)) (nmem hf (by decide))
  · exact (z_szW (x := 120) (k := k) (a := a) (b := b) (S := S) x hx (hz x hx)).1
  · rw [o2.1.1 _ (by decide) (by decide) (by decide) (by decide) (by decide)]; exact hy
/-- what an act on one thing leaves of another -/
theorem frC_o (h : fr_C p t P P') (h1 : t1 ≠ t) (h2 : t1 ≠ p) : (∀ f, P'.1 f t1 = P.1 f t1) ∧ P'.2 (t1 + 1) = P.2 (t1 + 1) := ⟨fun f => h.1 f t1 (fun z => absurd z h2) (fun z => absurd z h1), h.2 _ (by omega) (by omega)⟩
/-- the ints behind one act -/
def rn (P : k_P) (t p k : Nat) (a : Int32) : k_P := k_run (k_clear P p) t p (nI k) a 1
def Pa (P : k_P) (t0 t1 p i k k2 : Nat) (a a2 : Int32) : k_P := rn (k_sml (k_sml P t0 (nI i)) t1 (nI i)) t0 p k a
def Pb (P : k_P) (t0 t1 p i k k2 : Nat) (a a2 : Int32) : k_P := rn (Pa P t0 t1 p i k k2 a a2) t0 p k2 a2
def Pc (P : k_P) (t0 t1 p i k k2 : Nat) (a a2 : Int32) : k_P := rn (Pb P t0 t1 p i k k2 a a2) t1 p k2 a2
def Pd (P : k_P) (t0 t1 p i k k2 : Nat) (a a2 : Int32) : k_P := rn (Pc P t0 t1 p i k k2 a a2) t1 p k a
def ocP (P : k_P) (p : Nat) : Int64 := oc (P.1 101 p) (P.1 100 p)
theorem tr1_ok (h0 : P.1 220 t0 = s) (h1 : P.1 220 t1 = s) (hp : P.1 221 t0 = P.1 221 t1) (n01 : t0 ≠ t1) (n0 : t0 ≠ p) (n1 : t1 ≠ p) (hi : i < 9) (h4 : s = 4 → i < 3) (hk : k < 18) (hk2 : k2 < 18) (hh : y_has s (nI k) = true) (hh2 : y_has s (nI k2) = true) (har : ar_R n o k a 1) (har2 : ar_R n o k2 a2 1) (hit : S.1 29 = 0) (hz : w_sz S.2) :
    (decide (ocP (Pa P t0 t1 p i k k2 a a2) p = ocP (Pd P t0 t1 p i k k2 a a2) p) && (decide (ocP (Pb P t0 t1 p i k k2 a a2) p = ocP (Pc P t0 t1 p i k k2 a a2) p) && k_smT (Pd P t0 t1 p i k k2 a a2) t0 t1)) = (y_tr1 s (nI k) a (nI k2) a2 i S).1 ∧ FX S (y_tr1 s (nI k) a (nI k2) a2 i S).2 ∧
    (∀ f y, y ≠ t0 → y ≠ t1 → y ≠ p → (Pa P t0 t1 p i k k2 a a2).1 f y = P.1 f y ∧ (Pb P t0 t1 p i k k2 a a2).1 f y = P.1 f y ∧ (Pc P t0 t1 p i k k2 a a2).1 f y = P.1 f y ∧ (Pd P t0 t1 p i k k2 a a2).1 f y = P.1 f y) ∧ (∀ y, y ≠ t0 + 1 → y ≠ t1 + 1 → y ≠ p + 1 → (Pd P t0 t1 p i k k2 a a2).2 y = P.2 y) ∧
    R_vl (k_sml (k_sml P t0 (nI i)) t1 (nI i)) t0 (y_lay s i S).2 120 s ∧ R_vl (Pa P t0 t1 p i k k2 a a2) t0 (y_work 120 k a 1 (y_lay s i S)).2.2 120 s ∧ R_vl (Pb P t0 t1 p i k k2 a a2) t1 (y_lay s i ((y_work 120 k2 a2 1 (y_work 120 k a 1 (y_lay s i S)).2).2.1, y_copy 120 121 (y_work 120 k2 a2 1 (y_work 120 k a 1 (y_lay s i S)).2).2.2)).2 120 s ∧
    R_vl (Pc P t0 t1 p i k k2 a a2) t1 (y_work 120 k2 a2 1 (y_lay s i ((y_work 120 k2 a2 1 (y_work 120 k a 1 (y_lay s i S)).2).2.1, y_copy 120 121 (y_work 120 k2 a2 1 (y_work 120 k a 1 (y_lay s i S)).2).2.2))).2.2 120 s ∧
    (∀ f, f ≠ 223 → (Pa P t0 t1 p i k k2 a a2).1 f t0 = P.1 f t0 ∧ (Pb P t0 t1 p i k k2 a a2).1 f t0 = P.1 f t0 ∧ (Pb P t0 t1 p i k k2 a a2).1 f t1 = P.1 f t1 ∧ (Pc P t0 t1 p i k k2 a a2).1 f t1 = P.1 f t1) := by
  have ek : (nI k).toNatClampNeg = k := i_cl (by omega)
  have ek2 : (nI k2).toNatClampNeg = k2 := i_cl (by omega)
  have sA := sml_r (P := P) (t := t0) (j := nI i) (x := t0)
  have sB := sml_r (P := k_sml P t0 (nI i)) (t := t1) (j := nI i) (x := t0)
  have sB2 := sml_r (P := k_sml P t0 (nI i)) (t := t1) (j := nI i) (x := t0 + 1)
  have hit1 : ∀ {S : m_S}, S.1 29 = 0 → (y_lay s i S).1 29 = 0 := fun h => by unfold y_lay; dsimp only; rw [up_n (by decide)]; exact h
  have hsm : ∀ {S : m_S}, (y_lay s i S).1 8 = s := by intro S; unfold y_lay; dsimp only; rw [up_s]
  -- the first small one
  have v0 : R_vl (k_sml (k_sml P t0 (nI i)) t1 (nI i)) t0 (y_lay s i S).2 120 s := (lay_vl (S := S) h0 hi h4).cg (sB.1 _ _ (Or.inr n01)) (sB2.2 (by omega)) rfl rfl rfl (fun _ _ => rfl)
  have q0 : (k_sml (k_sml P t0 (nI i)) t1 (nI i)).1 220 t0 = s := by rw [sB.1 _ _ (Or.inl (by decide)), sA.1 _ _ (Or.inl (by decide))]; exact h0
  have q1 : (k_sml (k_sml P t0 (nI i)) t1 (nI i)).1 220 t1 = s := by rw [sB.1 _ _ (Or.inl (by decide)), sA.1 _ _ (Or.inl (by decide))]; exact h1
  have z1 := FX.lay (s := s) (i := i) hz
  obtain ⟨a1, a2', a3, a4, a5, a6, a7, a8⟩ := tr_wk (p := p) (k := k) (a := a) v0 q0 hsm (hit1 hit) n0 hk hh har z1.2.2.2.2
  have e1 : y_tr1 s (nI k) a (nI k2) a2 i S = (let R2 := y_work 120 k a 1 (y_lay s i S)
    let R3 := y_work 120 k2 a2 1 R2.2
    let R6 := y_work 120 k2 a2 1 (y_lay s i (R3.2.1, y_copy 120 121 R3.2.2))
    let R7 := y_work 120 k a 1 R6.2
    (decide (R2.2.1 25 = R7.2.1 25) && decide (R3.2.1 25 = R6.2.1 25) && (decide (¬ R7.2.1 25 = 0) || decide (R2.1 = R7.1)) && (decide (¬ R3.2.1 25 = 0) || decide (R3.1 = R6.1)) && y_like R7.2.1 R7.2.2 120 121, R7.2)) := by
    unfold y_tr1
    rw [ek, ek2]
  rw [e1]
  dsimp only
  have Ea : k_run (k_clear (k_sml (k_sml P t0 (nI i)) t1 (nI i)) p) t0 p (nI k) a 1 = Pa P t0 t1 p i k k2 a a2 := rfl
  rw [Ea] at a1 a2' a3 a4 a5
  generalize hR2 : y_work 120 k a 1 (y_lay s i S) = R2 at *
  have it2 : R2.2.1 29 = 0 := (a6.1 _ (by decide)).trans (hit1 hit)
  have qa0 : (Pa P t0 t1 p i k k2 a a2).1 220 t0 = s := by rw [a5.1 _ _ (fun z => absurd z n0) (fun _ => by decide)]; exact q0
  obtain ⟨b1, b2, b3, b4, b5, b6, b7, b8⟩ := tr_wk (p := p) (k := k2) (a := a2) a1 qa0 a7 it2 n0 hk2 hh2 har2 a6.2.2.2.2
  have Eb : k_run (k_clear (Pa P t0 t1 p i k k2 a a2) p) t0 p (nI k2) a2 1 = Pb P t0 t1 p i k k2 a a2 := rfl
  rw [Eb] at b1 b2 b3 b4 b5
  generalize hR3 : y_work 120 k2 a2 1 R2.2 = R3 at *
  have it3 : R3.2.1 29 = 0 := (b6.1 _ (by decide)).trans it2
  -- the copy, and the second
  have zc := FX.copy (S := R3.2) b6.2.2.2.2
  have zl := FX.lay (s := s) (i := i) zc.2.2.2.2
  have w0 : R_vl (Pb P t0 t1 p i k k2 a a2) t0 (y_copy 120 121 R3.2.2) 121 s := cpy_vl b1
  have w1 : R_vl (Pb P t0 t1 p i k k2 a a2) t0 (y_lay s i (R3.2.1, y_copy 120 121 R3.2.2)).2 121 s := w0.cg rfl rfl (lay_x (by omega)).1 (lay_x (by omega)).2.1 (lay_x (by omega)).2.2 (fun j hj => lay_i (by omega))
  have oa := frC_o a5 (t1 := t1) (Ne.symm n01) n1
  have ob := frC_o b5 (t1 := t1) (Ne.symm n01) n1
  have v1 : R_vl (Pb P t0 t1 p i k k2 a a2) t1 (y_lay s i (R3.2.1, y_copy 120 121 R3.2.2)).2 120 s := (lay_vl (S := (R3.2.1, y_copy 120 121 R3.2.2)) (P := k_sml P t0 (nI i)) (by rw [sA.1 _ _ (Or.inl (by decide))]; exact h1) hi h4).cg (by rw [ob.1, oa.1]) (by rw [ob.2, oa.2]) rfl rfl rfl (fun _ _ => rfl)
  have qb1 : (Pb P t0 t1 p i k k2 a a2).1 220 t1 = s := by rw [ob.1, oa.1]; exact q1
  obtain ⟨c1, c2, c3, c4, c5, c6, c7, c8⟩ := tr_wk (p := p) (k := k2) (a := a2) v1 qb1 hsm (hit1 it3) n1 hk2 hh2 har2 zl.2.2.2.2
  have Ec : k_run (k_clear (Pb P t0 t1 p i k k2 a a2) p) t1 p (nI k2) a2 1 = Pc P t0 t1 p i k k2 a a2 := rfl
  rw [Ec] at c1 c2 c3 c4 c5
  generalize hS5 : y_lay s i (R3.2.1, y_copy 120 121 R3.2.2) = S5 at *
  generalize hR6 : y_work 120 k2 a2 1 S5 = R6 at *
  have it6 : R6.2.1 29 = 0 := by
    rw [c6.1 _ (by decide), ← hS5]
    exact hit1 it3
  have qc1 : (Pc P t0 t1 p i k k2 a a2).1 220 t1 = s := by rw [c5.1 _ _ (fun z => absurd z n1) (fun _ => by decide)]; exact qb1
  obtain ⟨d1, d2, d3, d4, d5, d6, d7, d8⟩ := tr_wk (p := p) (k := k) (a := a) c1 qc1 c7 it6 n1 hk hh har c6.2.2.2.2
  have Ed : k_run (k_clear (Pc P t0 t1 p i k k2 a a2) p) t1 p (nI k) a 1 = Pd P t0 t1 p i k k2 a a2 := rfl
  rw [Ed] at d1 d2 d3 d4 d5
  generalize hR7 : y_work 120 k a 1 R6.2 = R7 at *
  have pc := frC_o c5 (t1 := t0) n01 n0
  have pd := frC_o d5 (t1 := t0) n01 n0
  have wd : R_vl (Pd P t0 t1 p i k k2 a a2) t0 R7.2.2 121 s := by
    have m6 := c8.2.1 121 (by omega)
    have m7 := d8.2.1 121 (by omega)
    exact w1.cg (by rw [pd.1, pc.1]) (by rw [pd.2, pc.2]) (by rw [m7.1, m6.1]) (by rw [m7.2.1, m6.2.1]) (by rw [m7.2.2, m6.2.2]) (fun j hj => by rw [d8.2.2 _ (by omega), c8.2.2 _ (by omega)])
  have sd0 : (Pd P t0 t1 p i k k2 a a2).1 220 t0 = s := by rw [pd.1, pc.1, b5.1 _ _ (fun z => absurd z n0) (fun _ => by decide)]; exact qa0
  have sd1 : (Pd P t0 t1 p i k k2 a a2).1 220 t1 = s := by rw [d5.1 _ _ (fun z => absurd z n1) (fun _ => by decide)]; exact qc1
  have par : (Pd P t0 t1 p i k k2 a a2).1 221 t0 = (Pd P t0 t1 p i k k2 a a2).1 221 t1 := by
    rw [pd.1, pc.1, b5.1 _ _ (fun z => absurd z n0) (fun _ => by decide), a5.1 _ _ (fun z => absurd z n0) (fun _ => by decide), d5.1 _ _ (fun z => absurd z n1) (fun _ => by decide), c5.1 _ _ (fun z => absurd z n1) (fun _ => by decide), ob.1, oa.1, sB.1 _ _ (Or.inl (by decide)), sA.1 _ _ (Or.inl (by decide)), sB.1 _ _ (Or.inl (by decide)), sA.1 _ _ (Or.inl (by decide))]
    exact hp
  have lk := like_ok (F := R7.2.1) (A := R7.2.2) (t := t0) (u := t1) (x := 120) (y := 121) sd0 sd1 par wd d1 d7
  refine ⟨?_, ((z1.tr a6).tr b6).tr ((zc.tr zl).tr (c6.tr d6)), fun f y y0 y1 y2 => ?_, fun y y0 y1 y2 => ?_, v0, a1, v1, c1, fun f hf => ?_⟩
  · unfold ocP
    rw [oc_ok a2' a3 a4 d2 d3 d4, oc_ok b2 b3 b4 c2 c3 c4, lk]
    have sh : ∀ A B C D E X : Bool, (A = true → B = X) → True → (A && C && (D && E)) = (A && D && C && E) := fun A B C D E X _ _ => by cases A <;> cases C <;> cases D <;> rfl
    generalize decide (R2.2.1 25 = R7.2.1 25) = x1
    generalize (decide (¬ R7.2.1 25 = 0) || decide (R2.1 = R7.1)) = x2
    generalize y_like R7.2.1 R7.2.2 120 121 = x5
    by_cases ef : R3.2.1 25 = R6.2.1 25
    · rw [decide_eq_true ef, ef]
      generalize (decide (¬ R6.2.1 25 = 0) || decide (R3.1 = R6.1)) = x4
      cases x1 <;> cases x2 <;> cases x4 <;> cases x5 <;> rfl
    · rw [decide_eq_false ef, Bool.false_and, Bool.false_and, Bool.and_false, Bool.and_false, Bool.false_and, Bool.false_and, Bool.false_and]
  · have xa : (Pa P t0 t1 p i k k2 a a2).1 f y = P.1 f y := by rw [a5.1 f y (fun z => absurd z y2) (fun z => absurd z y0), sB.1 f y (Or.inr y1), sA.1 f y (Or.inr y0)]
    have xb : (Pb P t0 t1 p i k k2 a a2).1 f y = P.1 f y := by rw [b5.1 f y (fun z => absurd z y2) (fun z => absurd z y0)]; exact xa
    have xc : (Pc P t0 t1 p i k k2 a a2).1 f y = P.1 f y := by rw [c5.1 f y (fun z => absurd z y2) (fun z => absurd z y1)]; exact xb
    exact ⟨xa, xb, xc, by rw [d5.1 f y (fun z => absurd z y2) (fun z => absurd z y1)]; exact xc⟩
  · rw [d5.2 y y2 y1, c5.2 y y2 y1, b5.2 y y2 y0, a5.2 y y2 y0, (sml_r (P := k_sml P t0 (nI i)) (t := t1) (j := nI i) (x := y)).2 y1, (sml_r (P := P) (t := t0) (j := nI i) (x := y)).2 y0]
  · have e0 : (k_sml (k_sml P t0 (nI i)) t1 (nI i)).1 f t0 = P.1 f t0 := by rw [sB.1 _ _ (Or.inl hf), sA.1 _ _ (Or.inl hf)]
    have e1 : (k_sml (k_sml P t0 (nI i)) t1 (nI i)).1 f t1 = P.1 f t1 := by rw [sB.1 _ _ (Or.inl hf), sA.1 _ _ (Or.inl hf)]
    have ea : (Pa P t0 t1 p i k k2 a a2).1 f t0 = P.1 f t0 := by rw [a5.1 _ _ (fun z => absurd z n0) (fun _ => hf)]; exact e0
    have eb : (Pb P t0 t1 p i k k2 a a2).1 f t1 = P.1 f t1 := by rw [ob.1, oa.1]; exact e1
    exact ⟨ea, by rw [b5.1 _ _ (fun z => absurd z n0) (fun _ => hf)]; exact ea, eb, by rw [c5.1 _ _ (fun z => absurd z n1) (fun _ => hf)]; exact eb⟩
end VO
