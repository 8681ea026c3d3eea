/-! getsAll beside the reference -/
section SJ
variable {g : e_G} {Ψ : e_Q} {B : Nat → Option e_Cl} {Z Z1 : k_Z} {P P1 : k_P} {U U1 : k_U} {r r1 : Nat × Nat} {S S1 S2 : m_S} {N own n b l nl nw nr na ne t q q1 q2 o m c T sl mm : Nat} {s1 s2 : Int32} {ch : Nat → List Nat} {v : v_N}
theorem stp.tr (h : stp t q1 s1 S S1) (k : stp t q2 s2 S1 S2) : stp t q2 s2 S S2 := by
  obtain ⟨a1, a2, a3, a4⟩ := h
  obtain ⟨b1, b2, b3, b4⟩ := k
  refine ⟨fun f hf => (b1 f hf).trans (a1 f hf), fun f hf => (b2 f hf).trans (a2 f hf), ?_, ?_⟩
  · rw [b3, a3]; funext u; unfold va_up; split <;> rfl
  · rw [b4, a4]; funext u; unfold va_up; split <;> rfl
theorem stp.rf (h1 : S.2 47 t = s1) (h2 : S.2 71 t = nI q) : stp t q s1 S S := by
  refine ⟨fun _ _ => rfl, fun _ _ => rfl, ?_, ?_⟩
  · funext u; unfold va_up; split
    · rename_i z; rw [z]; exact h1
    · rfl
  · funext u; unfold va_up; split
    · rename_i z; rw [z]; exact h2
    · rfl
/-- what shall be when it waits -/
def G_W (Ψ : e_Q) (B : Nat → Option e_Cl) (N own n b l nr na ne : Nat) (ch : Nat → List Nat) (c T t q mm : Nat) (Z : k_Z) (U : k_U) (r : Nat × Nat) (S : m_S) : Prop :=
  ∀ Z' P' U' r' S2 nl' nw' x q2, I_all n b l nl' nw' nr na ne ch 0 c T S2 → K_all N own n b l nl' nw' nr ne ch 0 Z' P' U' r' S2 → stp t q2 2 S S2 → q ≤ q2 → q2 ≤ 12 → (∀ u, dl U' own u = dl U own u) → k_ro N x (8 * x) Z.2.1 r Z'.2.1 r' → (S2.1 66).toNatClampNeg = (S.1 66).toNatClampNeg + x → (∀ S' f, mm ≤ f → r_rings t 12 S2 S' → r_gol t f S S') → Ψ (some (.int 0)) (K_H Z' P' U' (B, r'))
/-- what shall be when it has all -/
def G_D (Ψ : e_Q) (B : Nat → Option e_Cl) (N own n b l nr na ne : Nat) (ch : Nat → List Nat) (c T t q mm : Nat) (Z : k_Z) (U : k_U) (r : Nat × Nat) (S : m_S) : Prop :=
  ∀ Z' P0 P' U' r' S2 nl' nw' x q2, I_all n b l nl' nw' nr na ne ch t c T S2 → I_cu t nl' S2.2 → needAt S2.2 t q2 = none → K_all N own n b l nl' nw' nr ne ch t Z' P0 U' r' S2 → eqA (dl U own t) P0 P' → stp t q2 1 S S2 → q ≤ q2 → q2 ≤ 12 → (∀ u, dl U' own u = dl U own u) → k_ro N x (8 * x) Z.2.1 r Z'.2.1 r' → (S2.1 66).toNatClampNeg = (S.1 66).toNatClampNeg + x → (∀ S' f, mm ≤ f → r_do t S2 S' → r_gol t f S S') → Ψ (some (.int 1)) (K_H Z' P' U' (B, r'))
theorem G_W.nx (h : G_W Ψ B N own n b l nr na ne ch c T t q (mm + 1) Z U r S) (hs : stp t (q + 1) 1 S S1) (hdl : ∀ u, dl U1 own u = dl U own u) (hro : k_ro N 1 8 Z.2.1 r Z1.2.1 r1) (eLA : (S1.1 66).toNatClampNeg = (S.1 66).toNatClampNeg + 1) (hg : r_gst t S S1) : G_W Ψ B N own n b l nr na ne ch c T t (q + 1) mm Z1 U1 r1 S1 :=
  fun Z' P' U' r' S2 nl' nw' x q2 h1 h2 h3 h4 hq h5 h6 h7 h8 => h Z' P' U' r' S2 nl' nw' (x + 1) q2 h1 h2 (hs.tr h3) (by omega) hq (fun u => (h5 u).trans (hdl u)) ((hro.tr h6).le (by omega) (by omega)) (by omega) (fun S' f hf hr => by
    cases f with
    | zero => omega
    | succ f => exact Or.inr (Or.inr ⟨S1, hg, h8 S' f (by omega) hr⟩))
theorem G_D.nx (h : G_D Ψ B N own n b l nr na ne ch c T t q (mm + 1) Z U r S) (hs : stp t (q + 1) 1 S S1) (hdl : ∀ u, dl U1 own u = dl U own u) (hro : k_ro N 1 8 Z.2.1 r Z1.2.1 r1) (eLA : (S1.1 66).toNatClampNeg = (S.1 66).toNatClampNeg + 1) (hg : r_gst t S S1) : G_D Ψ B N own n b l nr na ne ch c T t (q + 1) mm Z1 U1 r1 S1 :=
  fun Z' P0 P' U' r' S2 nl' nw' x q2 h1 h9 h10 h2 h0 h3 h4 hq h5 h6 h7 h8 => h Z' P0 P' U' r' S2 nl' nw' (x + 1) q2 h1 h9 h10 h2 (by rw [← hdl]; exact h0) (hs.tr h3) (by omega) hq (fun u => (h5 u).trans (hdl u)) ((hro.tr h6).le (by omega) (by omega)) (by omega) (fun S' f hf hr => by
    cases f with
    | zero => omega
    | succ f => exact Or.inr (Or.inr ⟨S1, hg, h8 S' f (by omega) hr⟩))
theorem sp_ne (E : k_E N own Z U r) (hs : k_Sp U own n) {x : Nat} (hx : x < n) (ho : o < n) : (k_sp U own x = k_sp U own o → x = o) ∧ k_sp U own x + 2 ≠ k_sp U own o + 1 ∧ k_sp U own x + 1 ≠ k_sp U own o + 2 := by
  have t13 := (E.1.hse E.2.1).2.2.2.1
  have tx := k_sp_t E.1 E.2.1 hs hx
  have to' := k_sp_t E.1 E.2.1 hs ho
  refine ⟨fun e => (E.2.2.2.1 _ x _ o _ (Or.inr t13) (Or.inr t13) (hs x hx) (by rw [e]; exact hs o ho)).2, fun z => ?_, fun z => ?_⟩
  · have := (E.1.spt tx).1
    rw [show k_sp U own x + 1 = k_sp U own o by omega, to'] at this
    exact absurd this (by decide)
  · have := (E.1.spt to').1
    rw [show k_sp U own o + 1 = k_sp U own x by omega, tx] at this
    exact absurd this (by decide)
theorem s_getD (hg : e_GK g) (h1 : 1 ≤ t) (h2 : t ≤ b) {i : Nat} {w3 w4 : Option Value} (hi : i < 32) (hq : q ≤ 12) (hI : I_all n b l nl nw nr na ne ch t c T S) (hcu : I_cu t nl S.2) (hK : K_all N own n b l nl nw nr ne ch t Z P U (m, sl) S) (st1 : S.2 47 t = 1) (eq : S.2 71 t = nI q) (hn : nds t q S) (hv : needAt S.2 t q = none) (gD : G_D Ψ B N own n b l nr na ne ch c T t q mm Z U (m, sl) S) : e_Sm g 138 12 cd138 Ψ 2 [some (.ref own), some (.ref (dl U own t)), some (.int (nI i)), w3, w4] [] (K_H Z P U (B, (m, sl))) := by
  have hak := ask_ok hI hK h1 h2 (Or.inr rfl)
  have hI0 := hI
  have hK0 := hK
  obtain ⟨hL, hD, hE, hLk, hV, hM, hP, hX⟩ := hI
  obtain ⟨E, kLg, hs1, hs5, kDe, kEn, kAs, kLk, kVe, kMi⟩ := hK
  have td := dl_t E kDe.1 h1 h2
  obtain ⟨a1, a2, a3, a4, sp, a0, a5, a6⟩ := kAs t h1 h2 (Or.inr rfl)
  obtain ⟨oa, ka, b1, b2, b3, b4, b5⟩ := hX t h1 h2 (Or.inr rfl)
  obtain ⟨nn1, _⟩ := nn_ok (d := dl U own t) hs1.2 hL.2.2.1 hak a1 a2 a3 a4 a5 (by omega) eq (by omega) (a6.imp (fun z => ⟨z.1, z.2.1, z.2.2.1⟩) id)
  obtain ⟨P1, p1, p2⟩ := nn1 hv
  obtain ⟨cc, c1, c2, c3, c4⟩ := hn
  refine h_getD hg E hs1.1 td.1 b2 (a1.trans b1) b4 (a2.trans b3) hi p1 (gD Z P P1 U (m, sl) S nl nw 0 q hI0 hcu hv hK0 p2 (stp.rf st1 eq) (Nat.le_refl _) hq (fun _ => rfl) k_ro.rf rfl (fun S' f _ hr => ?_))
  have hd : r_gdo t S S' := ⟨q, cc, by omega, c4 hv, eq, c2, hr⟩
  cases f with
  | zero => exact Or.inl hd
  | succ f => exact Or.inl hd
theorem s_gets (hg : e_GK g) (hA : e_AK g) (h1 : 1 ≤ t) (h2 : t ≤ b) : ∀ (mm q i m sl : Nat) (Z : k_Z) (P : k_P) (U : k_U) (S : m_S) (nl nw : Nat) (w3 w4 : Option Value), q + mm = 12 → i + mm ≤ 31 → I_all n b l nl nw nr na ne ch t c T S → I_cu t nl S.2 → K_all N own n b l nl nw nr ne ch t Z P U (m, sl) S → S.2 47 t = 1 → S.2 71 t = nI q → nds t q S →
    G_W Ψ B N own n b l nr na ne ch c T t q mm Z U (m, sl) S → G_D Ψ B N own n b l nr na ne ch c T t q mm Z U (m, sl) S → e_Sm g 138 12 cd138 Ψ 2 [some (.ref own), some (.ref (dl U own t)), some (.int (nI i)), w3, w4] [] (K_H Z P U (B, (m, sl))) := by
  intro mm
  induction mm with
  | zero =>
    intro q i m sl Z P U S nl nw w3 w4 hq hi hI hcu hK st1 eq hn gW gD
    cases hv : needAt S.2 t q with
    | none => exact s_getD hg h1 h2 (by omega) (by omega) hI hcu hK st1 eq hn hv gD
    | some v =>
      have hak := ask_ok hI hK h1 h2 (Or.inr rfl)
      have hob := hI.1.2.2.1
      obtain ⟨o, v1, v2, v3, v4, v5, v6, v7⟩ := need_v hob hak hv
      obtain ⟨z1, z2⟩ := o1_L1 hak hob.1
      have := (dp_ok hob z2).2
      rw [z1] at v6
      omega
  | succ mm ih =>
    intro q i m sl Z P U S nl nw w3 w4 hq hi hI hcu hK st1 eq hn gW gD
    cases hv : needAt S.2 t q with
    | none => exact s_getD hg h1 h2 (by omega) (by omega) hI hcu hK st1 eq hn hv gD
    | some v =>
    have hak := ask_ok hI hK h1 h2 (Or.inr rfl)
    have hI0 := hI
    have hK0 := hK
    obtain ⟨hL, hD, hE, hLk, hV, hM, hP, hX⟩ := hI
    obtain ⟨E, kLg, hs1, hs5, kDe, kEn, kAs, kLk, kVe, kMi⟩ := hK
    have n40 := hL.2.2.1.1
    obtain ⟨n1, n2⟩ := nl_le hD hLk n40 hP
    have td := dl_t E kDe.1 h1 h2
    have tm : Z.1 m = 0 := (E.2.2.1 m (Nat.le_refl _)).1
    obtain ⟨a1, a2, a3, a4, sp, a0, a5, a6⟩ := kAs t h1 h2 (Or.inr rfl)
    obtain ⟨oa, ka, b1, b2, b3, b4, b5⟩ := hX t h1 h2 (Or.inr rfl)
    obtain ⟨_, nn2⟩ := nn_ok (d := dl U own t) hs1.2 hL.2.2.1 hak a1 a2 a3 a4 a5 (by omega) eq (by omega) (a6.imp (fun z => ⟨z.1, z.2.1, z.2.2.1⟩) id)
    obtain ⟨P1, p1, p2, sp', p3, p4⟩ := nn2 v hv
    obtain ⟨o, v1, v2, v3, v4, v5, v6, v7⟩ := need_v hL.2.2.1 hak hv
    obtain ⟨⟨cc, hw⟩, w1, w2, w3', w4', w5, w6, w7⟩ := now_ok hI0 eq hn hv v1 v2
    have hsp : ∃ sp, sp ≤ 100 ∧ P1.1 25 (dl U own t + 1) = nI sp ∧ ((P1.1 24 (dl U own t + 1) = 0 ∧ q = sp ∧ sp ≤ dp S.2 (o_1 S.2 t)) ∨ (P1.1 24 (dl U own t + 1) = 1 ∧ q = dp S.2 (o_1 S.2 t) + 1 + sp)) := ⟨sp', by omega, p3, p4⟩
    have lav := lA_v hP
    have lal : (S.1 66).toNatClampNeg ≤ 12 * c := by have := hP.2.2.2.2.2.1; omega
    have c512 := hP.2.2.1
    have laN : ∀ S1 : m_S, S1.1 66 = S.1 66 + 1 → (S1.1 66).toNatClampNeg = (S.1 66).toNatClampNeg + 1 := fun S1 h => by rw [h, lav, i_cl (by omega)]
    have spt : Z.1 (k_sp U own o) = 10 := k_sp_t E.1 E.2.1 kLk.1 v1
    obtain ⟨l1, l2, _, _⟩ := E.1.spt spt
    have zz : ∀ {a : Nat}, Z.1 a ≠ 0 → (k_zl Z m (dl U own t)).1 a = Z.1 a := fun h => k_ztn (fun e => h (by rw [e]; exact tm))
    have zm : (k_zl Z m (dl U own t)).1 m = 4 := k_zts
    have wL := E.1.lock tm td.1
    have a14 := (E.1.hse E.2.1).2.2.2.2.1
    refine h_getS hg hA E hs1.1 kLk.1 td.1 b2 (a1.trans b1) b4 (a2.trans b3) (by omega) p1 p2 v2 v1 v4 (lw_of hLk kLk v1) (by rw [hl_len kLk v1]; have := n2 o; omega) (by have := ql_len kLk v1; have := hLk.2.2.1; omega) (fun bb e he => ?_)
    obtain ⟨x1, x2⟩ := asked_ok hI0 hK0 h1 h2 p2 v1 he
    refine ⟨fun hb => ?_, fun hb hz C' r' w3 w4 hr => ?_, fun hb hz C' r' hr => ?_⟩
    · -- held
      have hh : y_held t q o nl S = true := by rw [w1, ← x1]; exact hb
      obtain ⟨S1, nl', ex, g1, g2, g3, g4, g5, g6, g7, g8⟩ := gst_ok hI0 hak h1 h2 st1 eq hn hv v1 v2 (Or.inl hh)
      have ex0 : ex = [] := by
        rcases g8 with z | z
        · exact z.2
        · rw [hh] at z; cases z.1
      have hK1 := K_gst (e := e) (hx := fun _ => []) (U' := U) (C' := Z.2.1) (r' := (m + 1, sl + 8)) hI0 hK0 h1 h2 st1 p2 v1 v2 g2 g4 (by omega) hsp (fun x _ => by rw [List.append_nil]) (fun x _ => rfl) rfl rfl (fun a _ => rfl) k_ro.rf wL (Or.inl ⟨rfl, ex0⟩) g6 g7
      intro w3 w4
      have ro : k_ro N 1 8 Z.2.1 (m, sl) (k_zl Z m (dl U own t)).2.1 (m + 1, sl + 8) := k_ro.new 1 8
      exact ih (q + 1) (i + 1) (m + 1) (sl + 8) _ _ U S1 nl' nw w3 w4 (by omega) (by omega) g5 (cu_gst hI0 hak hcu eq (by omega) hn hv v1 v2 g2 g6 g8) hK1 (by rw [g2.2.2.1, up_s]) (by rw [g2.2.2.2, up_s]) g3 (gW.nx g2 (fun _ => rfl) ro (laN S1 g4) g1) (gD.nx g2 (fun _ => rfl) ro (laN S1 g4) g1)
    · -- granted
      subst hb
      obtain ⟨x3, p, x4, x5, x6, x7⟩ := x2 rfl
      have hh : y_held t q o nl S = false := by rw [w1, ← x1]
      rw [← x4] at hz
      have hbk : y_blk t q o nl nw S = false := by rw [w3', w2, ← x3]; exact x7.mp hz
      obtain ⟨S1, nl', ex, g1, g2, g3, g4, g5, g6, g7, g8⟩ := gst_ok hI0 hak h1 h2 st1 eq hn hv v1 v2 (Or.inr ⟨hh, hbk⟩)
      have ex1 : ex = [(nI t, v.1, v.2.1, v.2.2.1, v.2.2.2, S.2 51 t, 1)] := by
        rcases g8 with z | z
        · rw [hh] at z; cases z.1
        · exact z.2
      have sp_e : ∀ x, k_sp (k_wl U (k_sp U own o + 1) (k_hl U own o ++ [m])) own x = k_sp U own x := fun x => rfl
      have hK1 := K_gst (e := e) (hx := fun x => if x = o then [m] else []) (U' := k_wl U (k_sp U own o + 1) (k_hl U own o ++ [m])) (C' := C') (r' := r') hI0 hK0 h1 h2 st1 p2 v1 v2 g2 g4 (by omega) hsp
        (fun x hx => by
          show (k_wl U (k_sp U own o + 1) (k_hl U own o ++ [m])).2.1 (k_sp U own x + 1) = k_hl U own x ++ if x = o then [m] else []
          by_cases cx : x = o
          · subst cx; rw [k_ls, if_pos rfl]
          · rw [k_ln (fun z => cx ((sp_ne E kLk.1 hx v1).1 (by omega))), if_neg cx, List.append_nil]; rfl)
        (fun x hx => by
          unfold k_ql
          rw [sp_e, k_ln (sp_ne E kLk.1 hx v1).2.1]) rfl rfl (fun a ha => k_ln (fun z => ha (by rw [z]; exact l1))) hr
        (wL.wl (fun z => by rw [zz (by rw [l1]; decide), l1] at z; exact absurd z (by decide)) (fun _ y hy => by
          rcases List.mem_append.mp hy with z | z
          · have := E.1.llo l1 z
            rw [zz (by rw [this]; decide)]; exact this
          · rw [List.mem_singleton] at z; rw [z]; exact zm) (fun z => by rw [zz (by rw [l1]; decide), l1] at z; exact absurd z (by decide)))
        (Or.inr ⟨rfl, ex1⟩) g6 g7
      have dlU : ∀ u, dl (k_wl U (k_sp U own o + 1) (k_hl U own o ++ [m])) own u = dl U own u := fun u => by
        unfold dl
        rw [k_ln (fun z => by rw [← z, a14] at l1; exact absurd l1 (by decide))]
      obtain ⟨m', sl'⟩ := r'
      have ro : k_ro N 1 8 Z.2.1 (m, sl) (k_zc (k_zl Z m (dl U own t)) C').2.1 (m', sl') := ((k_ro.new 1 8).tr hr).le (by omega) (by omega)
      have := ih (q + 1) (i + 1) m' sl' _ _ _ S1 nl' nw w3 w4 (by omega) (by omega) g5 (cu_gst hI0 hak hcu eq (by omega) hn hv v1 v2 g2 g6 g8) hK1 (by rw [g2.2.2.1, up_s]) (by rw [g2.2.2.2, up_s]) g3 (gW.nx g2 dlU ro (laN S1 g4) g1) (gD.nx g2 dlU ro (laN S1 g4) g1)
      rw [dlU] at this
      exact this
    · -- waits
      subst hb
      obtain ⟨x3, p, x4, x5, x6, x7⟩ := x2 rfl
      have hh : y_held t q o nl S = false := by rw [w1, ← x1]
      rw [← x4] at hz ⊢
      have hbk : y_blk t q o nl nw S = true := by
        rw [w3', w2, ← x3]
        cases hc : ((v_LO (nI o) (v_L nl S.2)).any (v_ag (S.2 4 o) (nI t) v.2.1 v.2.2.1 v.2.2.2) || (v_WO (nI o) ((v_W nw S.2).take (y_seat (nI o) e nw S.2))).any (v_agW (S.2 4 o) (nI t) v.2.1 v.2.2.1 v.2.2.2)) with
        | true => rfl
        | false => exact absurd (x7.mpr hc) hz
      obtain ⟨S1, g1, g2, g3, g4, g5, g6⟩ := gwt_ok (e := e) hI0 hak h1 h2 st1 eq hn hv v1 v2 hh hbk (by rw [w2, ← x3])
      have hK1 := K_wt (e := e) (p := p) (s := y_seat (nI o) e nw S.2) (U' := k_ww (k_wl U (k_sp U own o + 2) ((k_ql U own o).take p ++ m :: (k_ql U own o).drop p)) (dl U own t) (some m)) (C' := C') (r' := r') hI0 hK0 h1 h2 st1 p2 v1 v2 g2 g3 (by omega) hsp
        (fun x hx => by
          show (k_wl U (k_sp U own o + 2) ((k_ql U own o).take p ++ m :: (k_ql U own o).drop p)).2.1 (k_sp U own x + 1) = _
          rw [k_ln (sp_ne E kLk.1 hx v1).2.2]; rfl)
        (by
          show (k_wl U (k_sp U own o + 2) ((k_ql U own o).take p ++ m :: (k_ql U own o).drop p)).2.1 (k_sp U own o + 2) = _
          rw [k_ls])
        (fun x hx cx => by
          show (k_wl U (k_sp U own o + 2) ((k_ql U own o).take p ++ m :: (k_ql U own o).drop p)).2.1 (k_sp U own x + 2) = _
          rw [k_ln (fun z => cx ((sp_ne E kLk.1 hx v1).1 (by omega)))]; rfl) rfl rfl
        (fun a ha => by
          show (k_wl U (k_sp U own o + 2) ((k_ql U own o).take p ++ m :: (k_ql U own o).drop p)).2.1 a = _
          exact k_ln (fun z => ha (by rw [z]; exact l2))) hr
        ((wL.wl (fun z => by rw [zz (by rw [l2]; decide), l2] at z; exact absurd z (by decide)) (fun _ y hy => by
          have old : y ∈ k_ql U own o → (k_zl Z m (dl U own t)).1 y = 4 := fun z => by
            have := E.1.llo l2 z
            rw [zz (by rw [this]; decide)]; exact this
          rcases List.mem_append.mp hy with z | z
          · exact old (List.mem_of_mem_take z)
          · rcases List.mem_cons.mp z with z | z
            · rw [z]; exact zm
            · exact old (List.mem_of_mem_drop z)) (fun z => by rw [zz (by rw [l2]; decide), l2] at z; exact absurd z (by decide))).ww (fun y hy => by cases hy; exact zm))
        g5 g6 x5 x6
      have dlU : ∀ u, dl (k_ww (k_wl U (k_sp U own o + 2) ((k_ql U own o).take p ++ m :: (k_ql U own o).drop p)) (dl U own t) (some m)) own u = dl U own u := fun u => by
        show ((k_wl U (k_sp U own o + 2) ((k_ql U own o).take p ++ m :: (k_ql U own o).drop p)).2.1 (own + 14)).getD (u - 1) 0 = _
        rw [k_ln (fun z => by rw [← z, a14] at l2; exact absurd l2 (by decide))]
        rfl
      have ro : k_ro N 1 (8 * 1) Z.2.1 (m, sl) (k_zc (k_zl Z m (dl U own t)) C').2.1 r' := ((k_ro.new 1 8).tr hr).le (by omega) (by omega)
      refine gW _ _ _ r' S1 nl (nw + 1) 1 q g4 hK1 g2 (Nat.le_refl _) (by omega) dlU ro (laN S1 g3) (fun S' f _ hrr => ?_)
      have hd := g1 S' hrr
      cases f with
      | zero => exact Or.inr hd
      | succ f => exact Or.inr (Or.inl hd)
end SJ
