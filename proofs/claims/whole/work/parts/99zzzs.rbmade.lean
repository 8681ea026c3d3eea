/-! cut: what is made again -/
section VV
variable {g : e_G} {Ψ : e_Q} {B : Nat → Option e_Cl} {Z Z1 Z2 Z3 : k_Z} {P P1 P2 P3 : k_P} {U U1 U2 U3 : k_U} {r r1 r2 r3 : Nat × Nat} {S S4 Sb : m_S} {N N1 N2 own n b l nl nw nr na ne c T i m o x no cs' : Nat} {ch : Nat → List Nat} {so p v dg : Int32}
/-- what making again leaves -/
def Fy (own : Nat) (Z : k_Z) (P : k_P) (U : k_U) (r : Nat × Nat) (Z' : k_Z) (P' : k_P) (U' : k_U) (r' : Nat × Nat) : Prop :=
  (∀ a, Z.1 a ≠ 0 → Z'.1 a = Z.1 a) ∧ Z'.2 = Z.2 ∧ U'.1 = U.1 ∧ (∀ a, Z.1 a ≠ 0 → Z.1 a ≠ 31 → U'.2.1 a = U.2.1 a) ∧ (∀ a, a ≠ own + 6 → a ≠ own + 13 → U'.2.2 a = U.2.2 a) ∧
  (∀ f a, f ≠ 183 → Z.1 a ≠ 0 → Z.1 a ≠ 12 → Z.1 a ≠ 10 → Z.1 a ≠ 9 → a ≠ own + 7 → P'.1 f a = P.1 f a) ∧ (∀ a, Z.1 a ≠ 0 → Z.1 a ≠ 108 → (Z.1 a ≠ 116 ∨ a = own + 4) → P'.2 a = P.2 a) ∧ r.1 ≤ r'.1 ∧ r.2 ≤ r'.2
theorem Fy.rf : Fy own Z P U r Z P U r := ⟨fun _ _ => rfl, rfl, rfl, fun _ _ _ => rfl, fun _ _ _ => rfl, fun _ _ _ _ _ _ _ _ => rfl, fun _ _ _ _ => rfl, Nat.le_refl _, Nat.le_refl _⟩
theorem Fy.size (h : Fy own Z P U r Z1 P1 U1 r1) {s : Nat} (ts : Z.1 s = 9) : Fy own Z P U r Z1 (k_wr P1 161 s v) U1 r1 := by
  obtain ⟨a1, a2, a3, a4, a5, a6, a7, a8, a9⟩ := h
  exact ⟨a1, a2, a3, a4, a5, fun f a hv h0 h1 h2 h3 h4 => by rw [k_wno (Or.inr (fun z => by rw [z] at h3; exact h3 ts))]; exact a6 f a hv h0 h1 h2 h3 h4, a7, a8, a9⟩
theorem Fy.pt (E : k_E N own Z U r) (h : Fy own Z P U r Z1 P1 U1 r1) (pt : Pt N1 own (own + 5) m so p v Z1 P1 U1 r1 x Z2 P2 U2 r2) : Fy own Z P U r Z2 P2 U2 r2 := by
  obtain ⟨a1, a2, a3, a4, a5, a6, a7, a8, a9⟩ := h
  obtain ⟨E', tx, zz, z2, u1, u2, u3, u4, f1, f2, _, _, _, _, _, ro⟩ := pt
  have lt : ∀ a, Z.1 a ≠ 0 → a < r1.1 := fun a h => by have := E.lt h; omega
  have tg : ∀ a, Z.1 a ≠ 0 → Z2.1 a = Z.1 a := fun a h => (zz a (by rw [a1 a h]; exact h)).trans (a1 a h)
  have t5 := (E.1.hse E.2.1).2.1
  refine ⟨tg, z2.trans a2, u1.trans a3, fun a h0 h1 => by rw [u2]; exact a4 a h0 h1, fun a h0 h1 => (u4 a h0).trans (a5 a h0 h1), fun f a hv h0 h1 h2 h3 h4 => ?_, fun a h0 h1 h2 => ?_, ?_, ?_⟩
  · rw [f1 f a (lt a h0) (fun z => by have := tg a h0; rw [z, tx] at this; rw [z] at h1; exact h1 this.symm) (Or.inr (fun z => by rw [z] at h3; exact h3 t5))]
    exact a6 f a hv h0 h1 h2 h3 h4
  · rw [f2 a (lt a h0)]; exact a7 a h0 h1 h2
  · have := ro.1; omega
  · have := ro.2.1; omega
theorem Fy.pl (E : k_E N own Z U r) (h : Fy own Z P U r Z1 P1 U1 r1) (pl : Pl N1 own o so dg Z1 P1 U1 r1 x N2 Z2 P2 U2 r2) : Fy own Z P U r Z2 P2 U2 r2 := by
  obtain ⟨a1, a2, a3, a4, a5, a6, a7, a8, a9⟩ := h
  obtain ⟨hN, E', tx, zz, z2, u1, u2, ux1, ux2, u3, u4, f1, f2, _, _, _, _, le1, le2, _, _⟩ := pl
  have lt : ∀ a, Z.1 a ≠ 0 → a < r1.1 := fun a h => by have := E.lt h; omega
  have tg : ∀ a, Z.1 a ≠ 0 → Z2.1 a = Z.1 a := fun a h => (zz a (by rw [a1 a h]; exact h)).trans (a1 a h)
  obtain ⟨y1, y2, y3, y4⟩ := E'.1.spt tx
  have e1 := (E.1.hse E.2.1).1
  refine ⟨tg, z2.trans a2, u1.trans a3, fun a h0 h1 => ?_, fun a h0 h1 => (u4 a h1).trans (a5 a h0 h1), fun f a hv h0 h1 h2 h3 h4 => ?_, fun a h0 h1 h2 => ?_, by omega, by omega⟩
  · rw [u2 a (fun z => by have := tg a h0; rw [z, y1] at this; rw [z] at h1; exact h1 this.symm) (fun z => by have := tg a h0; rw [z, y2] at this; rw [z] at h1; exact h1 this.symm)]
    exact a4 a h0 h1
  · rw [f1 f a (lt a h0) (fun z => by have := tg a h0; rw [z, tx] at this; rw [z] at h2; exact h2 this.symm)]
    exact a6 f a hv h0 h1 h2 h3 h4
  · have n3 : a ≠ x + 3 := fun z => by
      rcases h2 with h | h
      · have := tg a h0; rw [z, y3] at this; rw [z] at h; exact h this.symm
      · have : x = own + 1 := by omega
        have t := tg (own + 1) (by rw [e1]; decide)
        rw [← this, tx] at t
        rw [this, e1] at t
        exact absurd t (by decide)
    have n4 : a ≠ x + 4 := fun z => by
      rcases h2 with h | h
      · have := tg a h0; rw [z, y4] at this; rw [z] at h; exact h this.symm
      · have : x = own := by omega
        have t := tg own (by rw [E.2.1]; decide)
        rw [← this, tx] at t
        rw [this, E.2.1] at t
        exact absurd t (by decide)
    rw [f2 a (lt a h0) n3 n4]; exact a7 a h0 h1 h2
theorem Fy.fr (E : k_E N own Z U r) (h : Fy own Z P U r Z1 P1 U1 r1) (E1 : k_E N1 own Z1 U1 r1) (hs : k_Sh Z1 P1 U1 (own + 5) m) (hf : fr_S U1 (own + 5) m P1 P2) : Fy own Z P U r Z1 P2 U1 r1 := by
  obtain ⟨a1, a2, a3, a4, a5, a6, a7, a8, a9⟩ := h
  have t5 := (E.1.hse E.2.1).2.1
  have t8 : Z.1 (own + 8) = 116 := (E.1.shf t5).2.2
  refine ⟨a1, a2, a3, a4, a5, fun f a hv h0 h1 h2 h3 h4 => ?_, fun a h0 h1 h2 => ?_, a8, a9⟩
  · rw [hf.1 f a (fun z => absurd z h4) (fun ⟨o, o1, o2⟩ => absurd (by rw [← a1 a h0, o2]; exact (k_th_t E1.1 hs o1).1) h1)]
    exact a6 f a hv h0 h1 h2 h3 h4
  · rw [hf.2 a (fun z => by
      have z : a = own + 8 := z
      rcases h2 with h | h
      · rw [z] at h; exact h t8
      · omega) (fun o ho z => by
      have := (k_th_t E1.1 hs ho).2
      rw [← z, a1 a h0] at this
      exact h1 this)]
    exact a7 a h0 h1 h2
theorem Fy.vf (E : k_E N own Z U r) (h : Fy own Z P U r Z1 P1 U1 r1) (E1 : k_E N1 own Z1 U1 r1) (hsp : k_Sp U1 own m) (hf : VF own m U1 P1 P2) : Fy own Z P U r Z1 P2 U1 r1 := by
  obtain ⟨a1, a2, a3, a4, a5, a6, a7, a8, a9⟩ := h
  have e1 := (E.1.hse E.2.1).1
  refine ⟨a1, a2, a3, a4, a5, fun f a hv h0 h1 h2 h3 h4 => ?_, fun a h0 h1 h2 => ?_, a8, a9⟩
  · rw [hf.1 f a hv]; exact a6 f a hv h0 h1 h2 h3 h4
  · rw [hf.2 a (fun o ho => ?_)]
    · exact a7 a h0 h1 h2
    · have ts := k_sp_t E1.1 E1.2.1 hsp ho
      obtain ⟨s1, s2, s3, s4⟩ := E1.1.spt ts
      refine ⟨fun z => ?_, fun z => ?_⟩
      · rcases h2 with h | h
        · rw [← a1 a h0, z] at h; exact h s3
        · have : k_sp U1 own o = own + 1 := by omega
          rw [this, a1 _ (by rw [e1]; decide), e1] at ts
          exact absurd ts (by decide)
      · rcases h2 with h | h
        · rw [← a1 a h0, z] at h; exact h s4
        · have : k_sp U1 own o = own := by omega
          rw [this, a1 _ (by rw [E.2.1]; decide), E.2.1] at ts
          exact absurd ts (by decide)
def fp_s4 : List Nat := [25, 28, 26, 27]
/-- the reference in the midst of a cut -/
def JK (S Sb : m_S) (no i : Nat) (S4 : m_S) : Prop := (∀ f, f ∉ fp_s4 → S4.1 f = Sb.1 f) ∧ (∀ f, f ∉ fp_vA → S4.2 f = Sb.2 f) ∧ (∀ o, md S.2 i ≤ o → o < no → S4.2 9 (40 + o) = S.2 6 o ∧ S4.2 10 (40 + o) = 0 ∧ S4.2 11 (40 + o) = 0 ∧ S4.2 97 o = 1) ∧
  elS 40 no Sb.2 S4.2 ∧ w_sz S4.2 ∧ w_01 40 (S4.2 101) ∧ I_ve no (y_cw (S.2 17) 4 0 i) S4
/-- the class in the midst of a cut -/
def JL (own n' : Nat) (S S4 : m_S) (N : Nat) (Z : k_Z) (P : k_P) (U : k_U) (r : Nat × Nat) (N1 : Nat) (Z1 : k_Z) (P1 : k_P) (U1 : k_U) (r1 : Nat × Nat) : Prop :=
  k_E N1 own Z1 U1 r1 ∧ (∀ a, k_in N a → k_in N1 a) ∧ (k_Sh Z1 P1 U1 (own + 5) n' ∧ R_sh P1 U1 (own + 5) n' S4.2 40) ∧ k_Sh Z1 P1 U1 (own + 1) n' ∧ k_Sp U1 own n' ∧ (∀ o, o < n' → U1.2.1 (k_sp U1 own o + 1) = [] ∧ U1.2.1 (k_sp U1 own o + 2) = [] ∧ P1.1 180 (k_sp U1 own o) = S.2 4 o) ∧ K_ve own n' P1 U1 S4 ∧ Fy own Z P U r Z1 P1 U1 r1 ∧ r1.1 ≤ r.1 + 7 * n' ∧ r1.2 ≤ r.2 + 57 * n'
/-- one made again: what the class has then -/
theorem rb_made (E : k_E N own Z U r) (th2 : ∀ o, o < n → U.2.2 (own + 2) o = some (k_th U (own + 1) o)) (hl : JL own m S S4 N Z P U r N1 Z1 P1 U1 r1) (hm : m < n) (n40 : n ≤ 40) (pt : Pt N1 own (own + 5) m so p v Z1 P1 U1 r1 x Z2 P2 U2 r2) (k5 : k_Sh Z2 P2 U2 (own + 5) (m + 1)) (R5 : R_sh P2 U2 (own + 5) (m + 1) S4.2 40) (es : S4.2 4 m = so) (es2 : S.2 4 m = so) (pl : Pl N1 own m so dg Z2 (k_wr P2 161 (own + 1) (nI (m + 1))) U2 r2 o N2 Z3 P3 U3 r3)
    (ev : S4.2 97 m = 1) (en : S4.2 98 (401 * m) = 0) (ed : S4.2 99 (401 * m) = dg) : JL own (m + 1) S S4 N Z P U r N2 Z3 P3 U3 r3 := by
  obtain ⟨E1, hN1, ⟨k5o, R5o⟩, k1, sp, spL, ve, fy, ro1, ro2⟩ := hl
  have tO1 := E1.2.1
  obtain ⟨b1, b2, b3, b4, b5, b6, b7, b8, b9, b10⟩ := E1.1.hse tO1
  have fy2 := fy.pt E pt
  have fy3 := fy2.size (v := nI (m + 1)) (s := own + 1) (E.1.hse E.2.1).1
  have fy4 := fy3.pl E pl
  obtain ⟨E2, tx, zz, z2, u1, u2, u3, u4, f1, f2, _, _, _, _, _, ro⟩ := pt
  have pl0 := pl
  obtain ⟨hN2, E3, to, zo, zo2, v1, v2, vx1, vx2, v3, v4, g1, g2, gs, gv, g0, gd, le1, le2, le3, le4⟩ := pl
  obtain ⟨y1, y2, y3, y4⟩ := E3.1.spt to
  have c1 : Z2.1 (own + 1) = 9 := by rw [zz _ (by rw [b1]; decide)]; exact b1
  have c5 : Z2.1 (own + 5) = 9 := k5.1
  have d1 : Z3.1 (own + 1) = 9 := by rw [zo _ (by rw [c1]; decide)]; exact c1
  have d13 : Z3.1 (own + 13) = 21 := by
    have : Z2.1 (own + 13) = 21 := by rw [zz _ (by rw [b4]; decide)]; exact b4
    rw [zo _ (by rw [this]; decide)]; exact this
  have k5w : k_Sh Z2 (k_wr P2 161 (own + 1) (nI (m + 1))) U2 (own + 5) (m + 1) := k5.keep (k_ra (by omega))
  have R5w : R_sh (k_wr P2 161 (own + 1) (nI (m + 1))) U2 (own + 5) (m + 1) S4.2 40 := R5.keep (fun f hf q hq => k_rn (by rcases hf with h | h | h | h <;> subst h <;> decide)) (fun _ _ => rfl) rfl rfl rfl (fun _ _ => ⟨rfl, rfl, rfl⟩) (fun _ _ _ => rfl)
  obtain ⟨k5z, R5z⟩ := pl0.sh E2 k5w R5w
  have ol : o < r3.1 := E3.lt (by rw [to]; decide)
  have spO : ∀ q, q < m → k_sp U3 own q = k_sp U1 own q ∧ k_sp U1 own q ≠ o ∧ Z3.1 (k_sp U1 own q) = 10 := fun q hq => by
    have e1 : U3.2.2 (own + 13) q = U1.2.2 (own + 13) q := by rw [v3, up_n (by omega), u4 _ (by omega)]
    have e2 := sp q hq
    have tt : Z3.1 (k_sp U1 own q) = 10 := E3.1.xsp d13 (e1.trans e2)
    refine ⟨by unfold k_sp; rw [e1], fun z => ?_, tt⟩
    have g1 : U3.2.2 (own + 13) q = some o := by rw [e1, ← z]; exact e2
    have g2 : U3.2.2 (own + 13) m = some o := by rw [v3, up_s]
    have := (E3.2.2.2.1 _ q _ m _ (Or.inr d13) (Or.inr d13) g1 g2).2
    omega
  have spN : k_sp U3 own m = o := by unfold k_sp; rw [v3, up_s]; rfl
  -- the old spots are as they were
  have old : ∀ q, q < m → (∀ f, P3.1 f (k_sp U1 own q) = P1.1 f (k_sp U1 own q)) ∧ P3.2 (k_sp U1 own q + 3) = P1.2 (k_sp U1 own q + 3) ∧ P3.2 (k_sp U1 own q + 4) = P1.2 (k_sp U1 own q + 4) ∧ U3.2.1 (k_sp U1 own q + 1) = U1.2.1 (k_sp U1 own q + 1) ∧ U3.2.1 (k_sp U1 own q + 2) = U1.2.1 (k_sp U1 own q + 2) := fun q hq => by
    obtain ⟨s1, s2, s3⟩ := spO q hq
    obtain ⟨w1, w2, w3, w4⟩ := E3.1.spt s3
    have ts := k_sp_t E1.1 tO1 sp hq
    obtain ⟨h1, h2, h3, h4⟩ := E1.1.spt ts
    have m0 := E1.lt (a := k_sp U1 own q) (by rw [ts]; decide)
    have m3 := E1.lt (a := k_sp U1 own q + 3) (by rw [h3]; decide)
    have m4 := E1.lt (a := k_sp U1 own q + 4) (by rw [h4]; decide)
    have le := ro.1
    have x1n : k_sp U1 own q ≠ o + 1 := fun z => by rw [z, y1] at s3; exact absurd s3 (by decide)
    have x2n : k_sp U1 own q + 1 ≠ o := fun z => by rw [z, to] at w1; exact absurd w1 (by decide)
    have nx : k_sp U1 own q ≠ x := fun z => by have := zz _ (by rw [ts]; decide : Z1.1 (k_sp U1 own q) ≠ 0); rw [z, tx, ← z, ts] at this; exact absurd this (by decide)
    have n1 : k_sp U1 own q ≠ own + 1 := fun z => by rw [z, b1] at ts; exact absurd ts (by decide)
    have n5 : k_sp U1 own q ≠ own + 5 := fun z => by rw [z, b2] at ts; exact absurd ts (by decide)
    refine ⟨fun f => ?_, ?_, ?_, ?_, ?_⟩
    · rw [g1 f _ (by omega) s2, k_wno (Or.inr n1), f1 f _ m0 nx (Or.inr n5)]
    · rw [g2 _ (by omega) (by omega) (by omega)]
      show P2.2 _ = _
      rw [f2 _ m3]
    · rw [g2 _ (by omega) (by omega) (by omega)]
      show P2.2 _ = _
      rw [f2 _ m4]
    · rw [v2 _ (by omega) (by omega), u2]
    · rw [v2 _ (by omega) (by omega), u2]
  obtain ⟨o1, o2, o3, o4, _⟩ := ro
  rw [z2] at o3 o4
  refine ⟨E3, fun a ha => hN2 a (hN1 a ha), ⟨k5z, R5z⟩, ⟨d1, ?_, by omega, fun q hq => ?_⟩, fun q hq => ?_, fun q hq => ?_, fun q hq w ew hw => ?_, fy4, by omega, by omega⟩
  · rw [g1 _ _ (by have := E1.lt (a := own + 1) (by rw [b1]; decide); omega) (fun z => by rw [← z, d1] at to; exact absurd to (by decide)), k_rs]
  · have e : U3.2.2 (own + 2) = U.2.2 (own + 2) := fy4.2.2.2.2.1 _ (by omega) (by omega)
    have e' : k_th U3 (own + 1) q = k_th U (own + 1) q := by unfold k_th; rw [show own + 1 + 1 = own + 2 from rfl, e]
    rw [e']
    show U3.2.2 (own + 2) q = _
    rw [e]
    exact th2 q (by omega)
  · by_cases c : q = m
    · subst c; rw [spN, v3, up_s]
    · rw [(spO q (by omega)).1, v3, up_n c, u4 _ (by omega)]; exact sp q (by omega)
  · by_cases c : q = m
    · subst c; rw [spN]; exact ⟨vx1, vx2, by rw [gs]; exact es2.symm⟩
    · obtain ⟨w1, w2, w3, w4, w5⟩ := old q (by omega)
      rw [(spO q (by omega)).1, w4, w5, w1]
      exact spL q (by omega)
  · by_cases c : q = m
    · subst c
      have w1 : w = 1 := by
        rw [ev, show (1 : Int32) = nI 1 from rfl, i_eq (by omega) (by omega)] at ew
        exact ew.symm
      subst w1
      rw [spN]
      refine ⟨by rw [gv]; rfl, fun i hi => ?_⟩
      have i0 : i = 0 := by omega
      subst i0
      rw [g0, gd, show 401 * q + (1 - min 1 16) + 0 = 401 * q by omega, en, ed]
      exact ⟨rfl, rfl⟩
    · obtain ⟨w1, w2, w3, w4, w5⟩ := old q (by omega)
      rw [(spO q (by omega)).1, w1, w2, w3]
      exact ve q (by omega) w ew hw
end VV
