/-! undoWhole: the class beside the reference -/
section RW
variable {g : e_G} {Ψ : e_Q} {B : Nat → Option e_Cl} {Z Z' : k_Z} {P P' : k_P} {U U' : k_U} {r r' : Nat × Nat} {S S' : m_S} {N own n b l nl nw nr na ne t i cur c T : Nat} {cc : Int32} {ch ch' : Nat → List Nat}
theorem k_stN {l : List Nat} {f a : Nat} (h : f ≠ 52) : (k_seat l P).1 f a = P.1 f a := if_neg (fun z => h z.1)
theorem k_stS {l : List Nat} {a : Nat} (h : a ∈ l) : (k_seat l P).1 52 a = nI (k_ix a l) := if_pos ⟨rfl, h⟩
/-- the world when a deal has left -/
theorem k_E.leave (E : k_E N own Z U r) {d i : Nat} {U3 : k_U} (w3 : k_W N Z U3) (e22 : U3.2.2 = U.2.2) (e15 : U3.2.1 (own + 15) = U.2.1 (own + 15)) : k_E N own Z (k_wl (k_dpW P U3 own d) (own + 15) ((U.2.1 (own + 15)).eraseIdx i)) r := by
  obtain ⟨w, t, fr, inj, hN⟩ := E
  have e0 : (k_dpW P U3 own d).2.2 = U3.2.2 := by
    unfold k_dpW
    split
    · rfl
    · rfl
  refine ⟨?_, t, fr, fun a j a' j' x h1 h2 q1 q2 => ?_, hN.cg (Nat.le_refl _) (fun _ _ => rfl) (by rw [show (k_wl (k_dpW P U3 own d) (own + 15) ((U.2.1 (own + 15)).eraseIdx i)).2.2 = U.2.2 from e0.trans e22])⟩
  · have a6 := (w.hse t).2.2.2.2.2.1
    refine k_W.wl ?_ (fun _ x hx => w.lde a6 (List.mem_of_mem_eraseIdx hx)) (fun z => by rw [a6] at z; exact absurd z (by decide)) (fun z => by rw [a6] at z; exact absurd z (by decide))
    unfold k_dpW
    split
    · exact w3
    · exact (w3.wlS (fun x hx => List.mem_of_mem_eraseIdx hx)).ww (fun y hy => by cases hy)
  · have : (k_wl (k_dpW P U3 own d) (own + 15) ((U.2.1 (own + 15)).eraseIdx i)).2.2 = U.2.2 := e0.trans e22
    rw [this] at q1 q2
    exact inj a j a' j' x h1 h2 q1 q2
theorem R_sh.cgU {s x0 : Nat} {A : m_A} (h : R_sh P U s n A x0) (e : ∀ o, o < n → k_th U' s o = k_th U s o) : R_sh P U' s n A x0 := fun o ho => by rw [e o ho]; exact h o ho
theorem s_undoWhole (hg : e_GK g) (hA : e_AK g) (hI : I_all n b l nl nw nr na ne ch 0 c T S) (hK : K_all N own n b l nl nw nr ne ch 0 Z P U r S) (h1 : 1 ≤ t) (h2 : t ≤ b) (hu : undw S.2 t) (hi : (v_lv l S.2)[i]? = some t)
    (q : ∀ Z' P' U' r' nl' nw', I_all n b (l - 1) nl' nw' (nr + (ch t).length + 1) na ne (up1 ch t []) 0 c (T + (ch t).length + 1) (Su t cc (ch t).length nw nl i l S) → K_all N own n b (l - 1) nl' nw' (nr + (ch t).length + 1) ne (up1 ch t []) 0 Z' P' U' r' (Su t cc (ch t).length nw nl i l S) → U'.2.1 (own + 14) = U.2.1 (own + 14) → k_ro N ((ch t).length + 1) (10 * ((ch t).length + 1)) Z.2.1 r Z'.2.1 r' → Ψ (some (.int (nI (ch t).length))) (K_H Z' P' U' (B, r'))) :
    e_Sc g 135 [.ref own, .ref (dl U own t), .int cc] (K_H Z P U (B, r)) Ψ := by
  obtain ⟨rU, nl', nw', l2, w2, l3, w3, hI'⟩ := I_undo (cc := cc) hI h1 h2 hu hi
  have hI0 := hI
  obtain ⟨hL, hD, hE, hLk, hV, hM, hP, hX⟩ := hI
  obtain ⟨E, kLg, ⟨hs, hS⟩, ⟨hs5, hS5⟩, kDe, kEn, kAs, kLk, kVe, kMi⟩ := hK
  obtain ⟨n1, n2⟩ := nl_le hD hLk hL.2.2.1.1 hP
  obtain ⟨d1, d2, d3, d4, d5, d6, d7, d8, d9, d10, d11⟩ := hD
  obtain ⟨e1, e2, e3, e4, e5, e6, e7⟩ := kDe
  have n40 := hL.2.2.1.1
  have hch := hL.2.2.2.2.2.2.1 t h1 h2 (Or.inl hu)
  have td := dl_t E e1 h1 h2
  obtain ⟨f0, f1, f2, f3⟩ := e5 t h1 h2
  have hR : R_u N own n b nr na ch Z P U r S := ⟨E, hL, kLg, hs, hS⟩
  have em : (S.2 52 t).toNatClampNeg = (ch t).length := by rw [hch.1, i_cl (by have := hch.2.1; omega)]
  have hsum := sum_er (f := fun t => (S.2 52 t).toNatClampNeg + 1 + (if S.2 47 t = 2 ∨ t = 0 then 2 else 0)) hi
  have hlen : nr + (ch t).length + 1 ≤ 1100 := by
    obtain ⟨p1, p2, p3, p4⟩ := hP
    rw [em] at hsum
    omega
  have tO := E.2.1
  obtain ⟨a1, a2, a3, a4, a5, a6, a7, a8, a9, a10⟩ := E.1.hse tO
  have dlt : dl U own t < r.1 := E.lt (by rw [td.1]; decide)
  have olt : ∀ k, k ≤ 25 → Z.1 (own + k) ≠ 0 → own + k < r.1 := fun k _ h => E.lt h
  have hil : i < l := by have := (List.getElem?_eq_some_iff.mp hi).1; rw [v_lvl] at this; exact this
  refine e_call (cd := cd135) hg ok135 (by rw [mL135]; exact Nat.le_of_ble_eq_true rfl) ?_
  rw [mL135]
  simp only [x_ini, x_inr, x_inn, x_inq, x_inl, x_in0, x_rp0, x_rps, Nat.reduceSub]
  simp (decide := true) (disch := first | assumption | omega) only [↓u135_0, ↓x_nil, ↓x_om, ↓x_aload_0r, ↓x_aload_0n, ↓x_aload_0q, ↓x_aload_1r, ↓x_aload_1n, ↓x_aload_1q, ↓x_iconst_0, ↓x_invokevirtual, mt_12_147, x_ps0, x_ps1, x_l40, x_l41, x_l42, x_l43, x_l44, ↓x_cv2, ↓x_istore_3, x_cl_i, x_cl_r, x_cl_n, x_cl_q, x_cl_0, x_cl_l, ↓x_getfield, ft_12_44, ↓x_new, ct_12_101, ↓x_dup_i, ↓x_dup_r, ↓x_dup_n, ↓x_iconst_5, ft_12_170, ↓x_iconst_m1, ↓x_invokespecial, mt_12_103, ↓x_ci7_2, mt_12_106, ↓x_cv1, mt_12_185, ↓x_iconst_4, ↓x_putfield, ft_12_125, x_fit0, x_fit1, x_fit2r, x_fit2n, x_fit2q, ↓x_iload_2, ft_12_194, ft_12_58, ft_12_332, ↓x_iconst_1, ↓x_iadd, ↓x_iload_3, ↓x_ireturn, rt135, Int.reduceAdd, Nat.reduceAdd, true_and, and_true, true_or, or_true, false_or, or_false, reduceCtorEq, false_and, and_false, and_self, or_self, false_implies, true_implies, not_true_eq_false, not_false_eq_true, implies_true, Option.some.injEq, ki12, kg12, kv12_7, kg2, kv2_0, ki7, ki4, kv2_3, kw2_3, k_rs, k_rn, k_r2, k_c2, kv2_4, kw2_4, kv12_9, kg10, kv10_0, kw10_0, up_s, up_n]
  refine s_undoActs hg hA (left := 0) (rem := (ch t).length) (f0 := f0) d1 h1 h2 hR hu td.1 (e3 t h1 h2).1 (by rw [(e3 t h1 h2).2.2.2.2.2.2.1, hch.1, Nat.zero_add]) f2 f1 (f3 (Or.inl hu)).2 (by rw [Nat.zero_add]) (by omega) (fun Z1 P1 U1 r1 D => ?_)
  obtain ⟨⟨E1, hI1, hK1, hs1, hS1⟩, wt, FR1, ea1, ro1⟩ := D
  have tO1 := E1.2.1
  have rr1 : r.1 ≤ r1.1 := ro1.1
  have td1 : Z1.1 (dl U own t) = 3 := by rw [(FR1.1 _ dlt).1]; exact td.1
  have tn := (E1.2.2.1 r1.1 (Nat.le_refl _)).1
  obtain ⟨b1, b2, b3, b4, b5, b6, b7, b8, b9, b10⟩ := E1.1.hse tO1
  have L1 := hK1.1
  simp (decide := true) (disch := first | assumption | omega) only [↓u135_0, ↓x_nil, ↓x_om, ↓x_aload_0r, ↓x_aload_0n, ↓x_aload_0q, ↓x_aload_1r, ↓x_aload_1n, ↓x_aload_1q, ↓x_iconst_0, ↓x_invokevirtual, mt_12_147, x_ps0, x_ps1, x_l40, x_l41, x_l42, x_l43, x_l44, ↓x_cv2, ↓x_istore_3, x_cl_i, x_cl_r, x_cl_n, x_cl_q, x_cl_0, x_cl_l, ↓x_getfield, ft_12_44, ↓x_new, ct_12_101, ↓x_dup_i, ↓x_dup_r, ↓x_dup_n, ↓x_iconst_5, ft_12_170, ↓x_iconst_m1, ↓x_invokespecial, mt_12_103, ↓x_ci7_2, mt_12_106, ↓x_cv1, mt_12_185, ↓x_iconst_4, ↓x_putfield, ft_12_125, x_fit0, x_fit1, x_fit2r, x_fit2n, x_fit2q, ↓x_iload_2, ft_12_194, ft_12_58, ft_12_332, ↓x_iconst_1, ↓x_iadd, ↓x_iload_3, ↓x_ireturn, rt135, Int.reduceAdd, Nat.reduceAdd, true_and, and_true, true_or, or_true, false_or, or_false, reduceCtorEq, false_and, and_false, and_self, or_self, false_implies, true_implies, not_true_eq_false, not_false_eq_true, implies_true, Option.some.injEq, k_alO, nf7, k_c2, ki12, kg12, kv12_7, kg2, kv2_0, ki7, ki4, kv2_3, kw2_3, k_rs, k_rn, k_r2, k_c2, kv2_4, kw2_4, kv12_9, kg10, kv10_0, kw10_0, up_s, up_n]
  refine h_newRow hg tn ?_
  have w1 : k_W N (k_zt Z1 r1.1 8) U1 := E1.1.leaf tn (by omega)
  have z1 : ∀ a, Z1.1 a ≠ 0 → (k_zt Z1 r1.1 8).1 a = Z1.1 a := fun a h => k_ztn (by have := E1.lt h; omega)
  have c0 : (k_zt Z1 r1.1 8).1 own = 13 := by rw [z1 own (by rw [tO1]; decide)]; exact tO1
  have c8 : (k_zt Z1 r1.1 8).1 (own + 17) = 5 := by rw [z1 _ (by rw [b8]; decide)]; exact b8
  have cm : (k_zt Z1 r1.1 8).1 r1.1 = 8 := k_zts
  have cd : (k_zt Z1 r1.1 8).1 (dl U own t) = 3 := by rw [z1 _ (by rw [td1]; decide)]; exact td1
  simp (decide := true) (disch := first | assumption | omega) only [↓u135_0, ↓x_nil, ↓x_om, ↓x_aload_0r, ↓x_aload_0n, ↓x_aload_0q, ↓x_aload_1r, ↓x_aload_1n, ↓x_aload_1q, ↓x_iconst_0, ↓x_invokevirtual, mt_12_147, x_ps0, x_ps1, x_l40, x_l41, x_l42, x_l43, x_l44, ↓x_cv2, ↓x_istore_3, x_cl_i, x_cl_r, x_cl_n, x_cl_q, x_cl_0, x_cl_l, ↓x_getfield, ft_12_44, ↓x_new, ct_12_101, ↓x_dup_i, ↓x_dup_r, ↓x_dup_n, ↓x_iconst_5, ft_12_170, ↓x_iconst_m1, ↓x_invokespecial, mt_12_103, ↓x_ci7_2, mt_12_106, ↓x_cv1, mt_12_185, ↓x_iconst_4, ↓x_putfield, ft_12_125, x_fit0, x_fit1, x_fit2r, x_fit2n, x_fit2q, ↓x_iload_2, ft_12_194, ft_12_58, ft_12_332, ↓x_iconst_1, ↓x_iadd, ↓x_iload_3, ↓x_ireturn, rt135, Int.reduceAdd, Nat.reduceAdd, true_and, and_true, true_or, or_true, false_or, or_false, reduceCtorEq, false_and, and_false, and_self, or_self, false_implies, true_implies, not_true_eq_false, not_false_eq_true, implies_true, Option.some.injEq, k_alO, nf7, k_c2, ki12, kg12, kv12_7, kg2, kv2_0, ki7, ki4, kv2_3, kw2_3, k_rs, k_rn, k_r2, k_c2, kv2_4, kw2_4, kv12_9, kg10, kv10_0, kw10_0, up_s, up_n]
  refine h_append hg hA w1 c8 cm (by rw [show own + 17 + 1 = own + 18 from rfl, L1]; omega) (fun C2 r2 hr2 => ?_)
  have E2 := E1.row (s' := r1.2 + 10) (fun y hy => hy) hr2
  have tdU : ∀ u, dl U1 own u = dl U own u := fun u => by unfold dl; rw [FR1.2.2.2.1 _ (olt 14 (by omega) (by rw [a5]; decide)) (by omega)]
  have fZ : ∀ a, a < r.1 → (k_zc (k_zt Z1 r1.1 8) C2).1 a = Z.1 a ∧ (k_zc (k_zt Z1 r1.1 8) C2).2.2 a = Z.2.2 a := fun a ha => by
    refine ⟨?_, (FR1.1 a ha).2.1⟩
    show (k_zt Z1 r1.1 8).1 a = Z.1 a
    rw [k_ztn (by omega)]
    exact (FR1.1 a ha).1
  have fP1 : ∀ f a, a < r1.1 → (k_set1 P1 r1.1 (k_rwF 5 (P1.1 40 (dl U own t)) (-1) (-1) 0 0 0 (-1))).1 f a = P1.1 f a := fun f a ha => k_s1n (by omega)
  have fP : ∀ f a, a < r.1 → ¬ X_u U own n (dl U own t) f a → (k_set1 P1 r1.1 (k_rwF 5 (P1.1 40 (dl U own t)) (-1) (-1) 0 0 0 (-1))).1 f a = P.1 f a := fun f a ha hx => (fP1 f a (by omega)).trans (FR1.2.1 f a ha hx)
  have fP2 : ∀ a, a < r.1 → ¬ Y_u U own n a → (k_set1 P1 r1.1 (k_rwF 5 (P1.1 40 (dl U own t)) (-1) (-1) 0 0 0 (-1))).2 a = P.2 a := fun a ha hx => FR1.2.2.1 a ha hx
  have fPP : (k_set1 P1 r1.1 (k_rwF 5 (P1.1 40 (dl U own t)) (-1) (-1) 0 0 0 (-1))).2 = P1.2 := rfl
  have fU22 : ∀ a, a < r.1 → (k_wl U1 (own + 18) (U1.2.1 (own + 18) ++ [r1.1])).2.2 a = U.2.2 a := fun a ha => (FR1.1 a ha).2.2
  have fUL : ∀ a, a < r.1 → a ≠ own + 18 → (k_wl U1 (own + 18) (U1.2.1 (own + 18) ++ [r1.1])).2.1 a = U.2.1 a := fun a ha hne => by rw [k_ln hne]; exact FR1.2.2.2.1 a ha hne
  have fU1 : ∀ a, a < r.1 → (k_wl U1 (own + 18) (U1.2.1 (own + 18) ++ [r1.1])).1 a = U.1 a := fun a ha => FR1.2.2.2.2 a ha id
  have fU18 : (k_wl U1 (own + 18) (U1.2.1 (own + 18) ++ [r1.1])).2.1 (own + 18) = U1.2.1 (own + 18) ++ [r1.1] := k_ls
  have hrow : ∀ f, (k_set1 P1 r1.1 (k_rwF 5 (P1.1 40 (dl U own t)) (-1) (-1) 0 0 0 (-1))).1 f r1.1 = k_rwF 5 (nI t) (-1) (-1) 0 0 0 (-1) f := fun f => by
    rw [k_s1s, FR1.2.1 _ _ dlt (by rintro (z | z | z); exact absurd z.1 (by decide); exact absurd z (by decide); exact absurd z.1 (by decide)), (e3 t h1 h2).1]
  have ro2 : k_ro N ((ch t).length + 1) (10 * ((ch t).length + 1)) Z.2.1 r C2 r2 := (ro1.tr ((k_ro.new 1 10).tr hr2)).le (by omega) (by omega)
  have ro2' : k_ro N ((ch t).length + 1) (10 * ((ch t).length + 1)) Z.2.1 r (k_zc (k_zt Z1 r1.1 8) C2).2.1 r2 := ro2
  clear ro2 FR1 ro1 hr2 cd cm c8 c0 z1 w1 b1 b2 b3 b4 b5 b6 b7 b8 b9 b10
  have u22a : (k_wl U1 (own + 18) (U1.2.1 (own + 18) ++ [r1.1])).2.2 = U1.2.2 := rfl
  generalize hZ2 : k_zc (k_zt Z1 r1.1 8) C2 = Z2 at *
  generalize hP2 : k_set1 P1 r1.1 (k_rwF 5 (P1.1 40 (dl U own t)) (-1) (-1) 0 0 0 (-1)) = P2 at *
  generalize hU2 : k_wl U1 (own + 18) (U1.2.1 (own + 18) ++ [r1.1]) = U2 at *
  have nX : ∀ f a, f ≠ 223 → f ≠ 149 → f ≠ 46 → ¬ X_u U own n (dl U own t) f a := fun f a z1 z2 z3 z => by
    rcases z with z | z | z
    · exact z1 z.1
    · exact z2 z
    · exact z3 z.1
  have tO2 := E2.2.1
  have td2 : Z2.1 (dl U own t) = 3 := by rw [(fZ _ dlt).1]; exact td.1
  have t25 : Z2.1 (own + 25) = 11 := (E2.1.hse tO2).2.2.2.2.2.2.2.2.2
  have l13 := olt 13 (by omega) (by rw [a4]; decide)
  have l14 := olt 14 (by omega) (by rw [a5]; decide)
  have l15 := olt 15 (by omega) (by rw [a6]; decide)
  have l16 := olt 16 (by omega) (by rw [a7]; decide)
  have t18 := E.1.log a8
  have l18 : own + 18 < r.1 := E.lt (by rw [show own + 18 = own + 17 + 1 from rfl, t18]; decide)
  have spU : ∀ o, k_sp U2 own o = k_sp U own o := fun o => by unfold k_sp; rw [fU22 _ l13]
  have spt : ∀ o, o < n → Z.1 (k_sp U own o) = 10 := fun o ho => k_sp_t E.1 tO kLk.1 ho
  have sp1 : ∀ o, o < n → k_sp U own o + 1 < r.1 ∧ k_sp U own o + 2 < r.1 ∧ k_sp U own o + 1 ≠ own + 18 ∧ k_sp U own o + 2 ≠ own + 18 ∧ k_sp U own o + 1 ≠ own + 15 ∧ k_sp U own o + 2 ≠ own + 15 := fun o ho => by
    obtain ⟨s1, s2, s3, s4⟩ := E.1.spt (spt o ho)
    refine ⟨E.lt (by rw [s1]; decide), E.lt (by rw [s2]; decide), fun z => ?_, fun z => ?_, fun z => ?_, fun z => ?_⟩
    · rw [z, show own + 18 = own + 17 + 1 from rfl, t18] at s1; exact absurd s1 (by decide)
    · rw [z, show own + 18 = own + 17 + 1 from rfl, t18] at s2; exact absurd s2 (by decide)
    · rw [z, a6] at s1; exact absurd s1 (by decide)
    · rw [z, a6] at s2; exact absurd s2 (by decide)
  have hl2 : ∀ o, o < n → k_hl U2 own o = k_hl U own o := fun o ho => by unfold k_hl; rw [spU]; exact fUL _ (sp1 o ho).1 (sp1 o ho).2.2.1
  have ql2 : ∀ o, o < n → k_ql U2 own o = k_ql U own o := fun o ho => by unfold k_ql; rw [spU]; exact fUL _ (sp1 o ho).2.1 (sp1 o ho).2.2.2.1
  have hsp2 : k_Sp U2 own n := fun o ho => by rw [spU, fU22 _ l13]; exact kLk.1 o ho
  have thU : ∀ s o, s + 1 < r.1 → k_th U2 s o = k_th U s o := fun s o hs => by unfold k_th; rw [fU22 _ hs]
  have l2' : own + 1 + 1 < r.1 := E.lt (by rw [(E.1.shf a1).1]; decide)
  have l6' : own + 5 + 1 < r.1 := E.lt (by rw [(E.1.shf a2).1]; decide)
  have hs2 : k_Sh Z2 P2 U2 (own + 1) n := by
    refine ⟨(E2.1.hse tO2).1, ?_, hs.2.2.1, fun o ho => ?_⟩
    · rw [fP _ _ (olt 1 (by omega) (by rw [a1]; decide)) (nX _ _ (by decide) (by decide) (by decide))]; exact hs.2.1
    · rw [thU _ _ l2', fU22 _ l2']; exact hs.2.2.2 o ho
  have hs52 : k_Sh Z2 P2 U2 (own + 5) n := by
    refine ⟨(E2.1.hse tO2).2.1, ?_, hs5.2.2.1, fun o ho => ?_⟩
    · rw [fP _ _ (olt 5 (by omega) (by rw [a2]; decide)) (nX _ _ (by decide) (by decide) (by decide))]; exact hs5.2.1
    · rw [thU _ _ l6', fU22 _ l6']; exact hs5.2.2.2 o ho
  have e15 : U2.2.1 (own + 15) = (v_lv l S.2).map (dl U own) := (fUL _ l15 (by omega)).trans e6
  have dli : ∀ u ∈ v_lv l S.2, 1 ≤ u ∧ u ≤ b := fun u hm => ⟨((d9 u).mp hm).1, ((d9 u).mp hm).2.1⟩
  have nd15 : (U2.2.1 (own + 15)).Nodup := by
    rw [e15]
    unfold List.Nodup
    rw [List.pairwise_map]
    refine d8.imp_of_mem (fun {x y} hx hy hlt e => ?_)
    have := dl_inj e1 e2 (dli x hx).1 (dli x hx).2 (dli y hy).1 (dli y hy).2 e
    omega
  have hsi : ∀ o o', o < n → o' < n → k_sp U2 own o = k_sp U2 own o' → o = o' := fun o o' ho ho' e => by
    have t13 := (E2.1.hse tO2).2.2.2.1
    exact (E2.2.2.2.1 _ o _ o' _ (Or.inr t13) (Or.inr t13) (hsp2 o ho) (by rw [e]; exact hsp2 o' ho')).2
  simp (decide := true) (disch := first | assumption | omega) only [↓u135_0, ↓x_nil, ↓x_om, ↓x_aload_0r, ↓x_aload_0n, ↓x_aload_0q, ↓x_aload_1r, ↓x_aload_1n, ↓x_aload_1q, ↓x_iconst_0, ↓x_invokevirtual, mt_12_147, x_ps0, x_ps1, x_l40, x_l41, x_l42, x_l43, x_l44, ↓x_cv2, ↓x_istore_3, x_cl_i, x_cl_r, x_cl_n, x_cl_q, x_cl_0, x_cl_l, ↓x_getfield, ft_12_44, ↓x_new, ct_12_101, ↓x_dup_i, ↓x_dup_r, ↓x_dup_n, ↓x_iconst_5, ft_12_170, ↓x_iconst_m1, ↓x_invokespecial, mt_12_103, ↓x_ci7_2, mt_12_106, ↓x_cv1, mt_12_185, ↓x_iconst_4, ↓x_putfield, ft_12_125, x_fit0, x_fit1, x_fit2r, x_fit2n, x_fit2q, ↓x_iload_2, ft_12_194, ft_12_58, ft_12_332, ↓x_iconst_1, ↓x_iadd, ↓x_iload_3, ↓x_ireturn, rt135, Int.reduceAdd, Nat.reduceAdd, true_and, and_true, true_or, or_true, false_or, or_false, reduceCtorEq, false_and, and_false, and_self, or_self, false_implies, true_implies, not_true_eq_false, not_false_eq_true, implies_true, Option.some.injEq, ki12, kg12, kv12_7, kg2, kv2_0, ki7, ki4, kv2_3, kw2_3, k_rs, k_rn, k_r2, k_c2, kv2_4, kw2_4, kv12_9, kg10, kv10_0, kw10_0, up_s, up_n]
  have wt2 : ∀ x, U2.1 (dl U own t) = some x → ∃ o, o < n ∧ P2.1 61 x = nI o := fun x hx => by
    rw [fU1 _ dlt] at hx
    obtain ⟨o, o1, o2, o3, o4⟩ := (kLk.2.2.2.2.2 t h1 h2).2 x hx
    have tx : Z.1 x = 4 := E.1.wtg td.1 hx
    exact ⟨o, o1, by rw [fP _ _ (E.lt (by rw [tx]; decide)) (nX _ _ (by decide) (by decide) (by decide))]; exact o4⟩
  have es0 : P2.1 52 (dl U own t) = nI i := by rw [fP _ _ dlt (nX _ _ (by decide) (by decide) (by decide))]; exact e7 i t hi
  have hs0 : (U2.2.1 (own + 15))[i]? = some (dl U own t) := by rw [e15, List.getElem?_map, hi]; rfl
  have len15 : (U2.2.1 (own + 15)).length = l := by rw [e15, List.length_map, v_lvl]
  refine h_leave hg hA E2.1 tO2 hs2 hsp2 hsi (fun o ho => ⟨?_, ?_⟩) td2 wt2 es0 hs0 nd15 (by omega) (fun U3 hm w3' => ?_)
  · rw [hl2 o ho, hl_len kLk ho]; have := n2 o; omega
  · rw [ql2 o ho]; have := ql_len kLk ho; have := hLk.2.2.1; omega
  have e22 : U3.2.2 = U2.2.2 := hm.2.1
  have sp3 : ∀ o, k_sp U3 own o = k_sp U own o := fun o => by rw [← spU]; unfold k_sp; rw [e22]
  have sne : ∀ o o', o < n → o' < n → k_sp U own o' + 1 ≠ k_sp U own o + 2 := fun o o' ho ho' z => by
    have q1 := (E.1.spt (spt o ho)).1
    have q2 := spt o' ho'
    rw [show k_sp U own o' = k_sp U own o + 1 by omega, q1] at q2
    exact absurd q2 (by decide)
  have m15 : U3.2.1 (own + 15) = U2.2.1 (own + 15) := hm.2.2.2 _ (fun o ho z => by rw [spU] at z; exact (sp1 o ho).2.2.2.2.1 z.symm)
  have E3 : k_E N own Z2 (k_wl (k_dpW P2 U3 own (dl U own t)) (own + 15) ((U2.2.1 (own + 15)).eraseIdx i)) r2 := E2.leave w3' e22 m15
  have h3 : ∀ o, o < n → U3.2.1 (k_sp U own o + 1) = (k_hl U own o).filter (fun y => !k_goes Z2 P2 (dl U own t) 0 0 y) := fun o ho => by
    have := hm.2.2.1 o ho
    rw [spU] at this
    rw [this]
    have q := hl2 o ho
    unfold k_hl at q
    rw [spU] at q
    rw [q]
    rfl
  have q3 : ∀ o, o < n → U3.2.1 (k_sp U own o + 2) = k_ql U own o := fun o ho => by
    rw [hm.2.2.2 _ (fun o' ho' z => by rw [spU] at z; exact sne o o' ho ho' z.symm)]
    exact fUL _ (sp1 o ho).2.1 (sp1 o ho).2.2.2.1
  have o3 : ∀ a, (∀ o, o < n → a ≠ k_sp U own o + 1) → U3.2.1 a = U2.2.1 a := fun a ha => hm.2.2.2 a (fun o ho => by rw [spU]; exact ha o ho)
  have yH : ∀ o y, o < n → y ∈ k_hl U own o → y < r.1 ∧ Z.1 y = 4 := fun o y ho hy => by
    have ty : Z.1 y = 4 := E.1.llo (E.1.spt (spt o ho)).1 hy
    exact ⟨E.lt (by rw [ty]; decide), ty⟩
  have yQ : ∀ o y, o < n → y ∈ k_ql U own o → y < r.1 ∧ Z.1 y = 4 := fun o y ho hy => by
    have ty : Z.1 y = 4 := E.1.llo (E.1.spt (spt o ho)).2.1 hy
    exact ⟨E.lt (by rw [ty]; decide), ty⟩
  have goe : ∀ o y, o < n → y ∈ k_hl U own o → k_goes Z2 P2 (dl U own t) 0 0 y = decide (Z.2.2 y = dl U own t) := fun o y ho hy => by
    obtain ⟨u, qa, b1, b2, b3, b4, b5, b6⟩ := kLk.2.2.1 o ho y hy
    have ylt := (yH o y ho hy).1
    have lv : ∃ v, v ≤ 4 ∧ P.1 66 y = nI v := by
      have : LV Z P own y ∈ (v_LO (nI o) (v_L nl S.2)).map LN := by
        have e := (kLk.2.1 o ho).1
        rw [if_pos rfl] at e
        rw [← e]; exact List.mem_map.mpr ⟨y, hy, rfl⟩
      obtain ⟨x, hx, ex⟩ := List.mem_map.mp this
      obtain ⟨u', o', v, g1, g2, g3, g4, g5, g6, g7, g8, g9, g0, g10, g11⟩ := hLk.2.2.2.2.1 x (List.mem_filter.mp hx).1
      exact ⟨v, g0, (congrArg (fun z : v_LT => z.2.2.2.2.2.1) ex).symm.trans g9⟩
    obtain ⟨v, v1, v2⟩ := lv
    obtain ⟨st, lv', m', q', j1, j2, j3, j4, j5, j6, j7, j8, j9, j10, _⟩ := d3 u b1 b2
    rw [j9, i_cl (by omega)] at b6
    unfold k_goes
    rw [fP _ _ ylt (nX _ _ (by decide) (by decide) (by decide)), fP _ _ ylt (nX _ _ (by decide) (by decide) (by decide)), (fZ y ylt).2, v2, b5, decide_eq_true (nI_pos' (by omega)), decide_eq_true (nI_pos' (by omega)), Bool.and_true, Bool.and_true]
  -- the lists of locks and waits
  have uh : ∀ o, o < n → (k_wl (k_dpW P2 U3 own (dl U own t)) (own + 15) ((U2.2.1 (own + 15)).eraseIdx i)).2.1 (k_sp U own o + 1) = (k_hl U own o).filter (fun y => decide (¬ Z.2.2 y = dl U own t)) := fun o ho => by
    have e : (k_dpW P2 U3 own (dl U own t)).2.1 (k_sp U own o + 1) = U3.2.1 (k_sp U own o + 1) := by
      unfold k_dpW
      split
      · rfl
      · rename_i x hx
        rw [hm.1] at hx
        obtain ⟨o', p1, p2⟩ := wt2 x hx
        rw [k_w2, p2, i_cl (by omega), sp3, k_ln (sne o' o p1 ho)]
    rw [k_ln (sp1 o ho).2.2.2.2.1, e, h3 o ho]
    exact List.filter_congr (fun y hy => by rw [goe o y ho hy, decide_not])
  have uq : ∀ o, o < n → (k_wl (k_dpW P2 U3 own (dl U own t)) (own + 15) ((U2.2.1 (own + 15)).eraseIdx i)).2.1 (k_sp U own o + 2) = (k_ql U own o).filter (fun y => decide (¬ Z.2.2 y = dl U own t)) := fun o ho => by
    rw [k_ln (sp1 o ho).2.2.2.2.2]
    have noq : (∀ y ∈ k_ql U own o, ¬ Z.2.2 y = dl U own t) → (k_ql U own o).filter (fun y => decide (¬ Z.2.2 y = dl U own t)) = k_ql U own o := fun h => List.filter_eq_self.mpr (fun y hy => by simp only [decide_eq_true_eq]; exact h y hy)
    have wq : ∀ o y, o < n → y ∈ k_ql U own o → Z.2.2 y = dl U own t → U.1 (dl U own t) = some y := fun o y ho hy e => by
      obtain ⟨u, b1, b2, b3, b4, b5, _⟩ := kLk.2.2.2.1 o ho y hy
      rw [e] at b4
      rw [b4]; exact b5
    unfold k_dpW
    split
    · rename_i hx
      rw [q3 o ho, noq]
      intro y hy e
      rw [hm.1, fU1 _ dlt, wq o y ho hy e] at hx
      cases hx
    · rename_i x hx
      have hx0 : U.1 (dl U own t) = some x := by rw [hm.1, fU1 _ dlt] at hx; exact hx
      obtain ⟨o', p1, p3, p4, p5⟩ := (kLk.2.2.2.2.2 t h1 h2).2 x hx0
      have p2 : P2.1 61 x = nI o' := by rw [fP _ _ (yQ o' x p1 p3).1 (nX _ _ (by decide) (by decide) (by decide))]; exact p5
      rw [k_w2, p2, i_cl (by omega), sp3]
      by_cases c : o = o'
      · subst c
        have eq : k_ql U3 own o = k_ql U own o := by
          have := q3 o ho
          unfold k_ql at this ⊢
          rw [sp3]
          exact this
        rw [k_ls, eq, er_ix (ql_nd hLk kLk ho) p3]
        refine List.filter_congr (fun y hy => ?_)
        rw [Bool.eq_iff_iff, decide_eq_true_eq, decide_eq_true_eq]
        constructor
        · intro hne e
          have := wq o y ho hy e
          rw [hx0] at this
          cases this
          exact hne rfl
        · intro hne e
          subst e
          exact hne p4
      · rw [k_ln (fun z => c (by
          have z' : k_sp U2 own o = k_sp U2 own o' := by rw [spU, spU]; omega
          exact hsi o o' ho p1 z')), q3 o ho, noq]
        intro y hy e
        have := wq o y ho hy e
        rw [hx0] at this
        cases this
        have := ql_place kLk ho hy
        rw [p5, i_eq (by omega) (by omega)] at this
        exact c this.symm
  have u22 : (k_wl (k_dpW P2 U3 own (dl U own t)) (own + 15) ((U2.2.1 (own + 15)).eraseIdx i)).2.2 = U2.2.2 := by
    refine Eq.trans ?_ e22
    show (k_dpW P2 U3 own (dl U own t)).2.2 = U3.2.2
    unfold k_dpW
    split <;> rfl
  have u15 : (k_wl (k_dpW P2 U3 own (dl U own t)) (own + 15) ((U2.2.1 (own + 15)).eraseIdx i)).2.1 (own + 15) = (U2.2.1 (own + 15)).eraseIdx i := k_ls
  have uO : ∀ a, a ≠ own + 15 → (∀ o, o < n → a ≠ k_sp U own o + 1 ∧ a ≠ k_sp U own o + 2) → (k_wl (k_dpW P2 U3 own (dl U own t)) (own + 15) ((U2.2.1 (own + 15)).eraseIdx i)).2.1 a = U2.2.1 a := fun a h0 ha => by
    rw [k_ln h0, ← o3 a (fun o ho => (ha o ho).1)]
    unfold k_dpW
    split
    · rfl
    · rename_i x hx
      rw [hm.1] at hx
      obtain ⟨o', p1, p2⟩ := wt2 x hx
      rw [k_w2, p2, i_cl (by omega), sp3, k_ln (ha o' p1).2]
  have uW1 : ∀ a, (k_wl (k_dpW P2 U3 own (dl U own t)) (own + 15) ((U2.2.1 (own + 15)).eraseIdx i)).1 a = if a = dl U own t then none else U2.1 a := fun a => by
    show (k_dpW P2 U3 own (dl U own t)).1 a = _
    unfold k_dpW
    split
    · rename_i hx
      by_cases c : a = dl U own t
      · rw [if_pos c, c]; exact hx
      · rw [if_neg c, hm.1]
    · by_cases c : a = dl U own t
      · rw [if_pos c, c]; exact k_ws
      · rw [if_neg c]
        show va_up U3.1 (dl U own t) none a = _
        rw [up_n c, hm.1]
  clear h3 q3 o3 goe hm w3'
  generalize hU' : k_wl (k_dpW P2 U3 own (dl U own t)) (own + 15) ((U2.2.1 (own + 15)).eraseIdx i) = U' at *
  obtain ⟨sr1, sr2, sr3⟩ := su_r (t := t) (cc := cc) (w := nw) (nl := nl) (i := i) (l := l) hL.1 (show nr + (ch t).length ≤ 6000 by omega)
  obtain ⟨ss1, ss2, ss3⟩ := su_s (t := t) (cc := cc) (m := (ch t).length) (w := nw) (nl := nl) (i := i) (l := l) (S := S)
  obtain ⟨sg1, sg2⟩ := su_g (t := t) (cc := cc) (m := (ch t).length) (w := nw) (nl := nl) (i := i) (l := l) (S := S)
  obtain ⟨sv1, sv2⟩ := su_lv (t := t) (cc := cc) (m := (ch t).length) (w := nw) (nl := nl) (S := S) hil
  have sA : ∀ f, f ∉ fp_un → (Su t cc (ch t).length nw nl i l S).2 f = S.2 f := fun f hf => su_A hf
  have sF : ∀ f, f ∉ [13, 80, 72, 45, 62] → (Su t cc (ch t).length nw nl i l S).1 f = S.1 f := fun f hf => su_F hf
  have sV : ∀ f, f = 9 ∨ f = 10 ∨ f = 11 ∨ f = 12 ∨ f = 53 ∨ f = 52 → (Su t cc (ch t).length nw nl i l S).2 f = (y_tb t (ch t).length S).2 f := fun f hf => su_V hf
  have tA : ∀ f, f ∉ fp_tb → (y_tb t (ch t).length S).2 f = S.2 f := fun f hf => ytbm_A hf _ _
  have thi := ytbm_hi (t := t) (ch t).length S wt
  have s15 : own + 18 ≠ own + 15 ∧ ∀ o, o < n → own + 18 ≠ k_sp U own o + 1 ∧ own + 18 ≠ k_sp U own o + 2 := ⟨by omega, fun o ho => ⟨(sp1 o ho).2.2.1.symm, (sp1 o ho).2.2.2.1.symm⟩⟩
  have oneq : ∀ k, (k = 14 ∨ k = 16) → Z.1 (own + k) = 30 → own + k ≠ own + 15 ∧ ∀ o, o < n → own + k ≠ k_sp U own o + 1 ∧ own + k ≠ k_sp U own o + 2 := fun k hk hz => ⟨by omega, fun o ho => by
    obtain ⟨q1, q2, _⟩ := E.1.spt (spt o ho)
    exact ⟨fun z => by rw [← z, hz] at q1; exact absurd q1 (by decide), fun z => by rw [← z, hz] at q2; exact absurd q2 (by decide)⟩⟩
  have u14 : U'.2.1 (own + 14) = U.2.1 (own + 14) := (uO _ (oneq 14 (by omega) a5).1 (oneq 14 (by omega) a5).2).trans (fUL _ l14 (by omega))
  have u16 : U'.2.1 (own + 16) = U.2.1 (own + 16) := (uO _ (oneq 16 (by omega) a7).1 (oneq 16 (by omega) a7).2).trans (fUL _ l16 (by omega))
  have dlU : ∀ u, dl U' own u = dl U own u := fun u => by unfold dl; rw [u14]
  have spU' : ∀ o, k_sp U' own o = k_sp U own o := fun o => by rw [← spU]; unfold k_sp; rw [u22]
  have ndE : ((U2.2.1 (own + 15)).eraseIdx i).Nodup := nd15.sublist (List.eraseIdx_sublist _ _)
  have e15' : (U2.2.1 (own + 15)).eraseIdx i = ((v_lv l S.2).eraseIdx i).map (dl U own) := by rw [e15, List.eraseIdx_eq_take_drop_succ, List.eraseIdx_eq_take_drop_succ, List.map_append, List.map_take, List.map_drop]
  have dlt' : ∀ u, 1 ≤ u → u ≤ b → dl U own u < r.1 ∧ dl U own u + 1 < r.1 ∧ dl U own u + 2 < r.1 := fun u u1 u2 => by
    obtain ⟨q1, q2, q3⟩ := dl_t E e1 u1 u2
    exact ⟨E.lt (by rw [q1]; decide), E.lt (by rw [q2]; decide), E.lt (by rw [q3]; decide)⟩
  have dne : ∀ u, 1 ≤ u → u ≤ b → u ≠ t → dl U own u ≠ dl U own t := fun u u1 u2 hne e => hne (dl_inj e1 e2 u1 u2 h1 h2 e)
  have nY : ∀ a, Z.1 a ≠ 108 → ¬ Y_u U own n a := fun a ha ⟨o, ho, e⟩ => ha (by rw [e]; exact (k_th_t E.1 hs ho).2)
  have fin : ∀ v : Int32, v = S.1 62 + 1 → Ψ (some (.int (nI (ch t).length))) (K_H Z2 (k_wr (k_wr (k_wr (k_seat ((U2.2.1 (own + 15)).eraseIdx i) (k_wr P2 45 (dl U own t) 0)) 43 (dl U own t) 4) 44 (dl U own t) cc) 200 (own + 25) v) U' (B, r2)) := by
    intro v hv
    have pq : ∀ f a, f ≠ 45 → f ≠ 52 → f ≠ 43 → f ≠ 44 → f ≠ 200 → (k_wr (k_wr (k_wr (k_seat ((U2.2.1 (own + 15)).eraseIdx i) (k_wr P2 45 (dl U own t) 0)) 43 (dl U own t) 4) 44 (dl U own t) cc) 200 (own + 25) v).1 f a = P2.1 f a := fun f a h3 h4 h5 h6 h7 => by
      rw [k_rn h7, k_rn h6, k_rn h5, k_stN h4, k_rn h3]
    have pd : ∀ f u, 1 ≤ u → u ≤ b → u ≠ t → f = 45 ∨ f = 43 ∨ f = 44 → (k_wr (k_wr (k_wr (k_seat ((U2.2.1 (own + 15)).eraseIdx i) (k_wr P2 45 (dl U own t) 0)) 43 (dl U own t) 4) 44 (dl U own t) cc) 200 (own + 25) v).1 f (dl U own u) = P.1 f (dl U own u) := fun f u u1 u2 hne hf => by
      have hd := dne u u1 u2 hne
      have e0 : P2.1 f (dl U own u) = P.1 f (dl U own u) := fP _ _ (dlt' u u1 u2).1 (nX _ _ (by omega) (by omega) (by omega))
      rcases hf with rfl | rfl | rfl
      · rw [k_rn (by decide), k_rn (by decide), k_rn (by decide), k_stN (by decide), k_ra hd]; exact e0
      · rw [k_rn (by decide), k_rn (by decide), k_ra hd, k_stN (by decide), k_rn (by decide)]; exact e0
      · rw [k_rn (by decide), k_ra hd, k_rn (by decide), k_stN (by decide), k_rn (by decide)]; exact e0
    have pt1 : (k_wr (k_wr (k_wr (k_seat ((U2.2.1 (own + 15)).eraseIdx i) (k_wr P2 45 (dl U own t) 0)) 43 (dl U own t) 4) 44 (dl U own t) cc) 200 (own + 25) v).1 45 (dl U own t) = 0 := by rw [k_rn (by decide), k_rn (by decide), k_rn (by decide), k_stN (by decide), k_rs]
    have pt2 : (k_wr (k_wr (k_wr (k_seat ((U2.2.1 (own + 15)).eraseIdx i) (k_wr P2 45 (dl U own t) 0)) 43 (dl U own t) 4) 44 (dl U own t) cc) 200 (own + 25) v).1 43 (dl U own t) = 4 := by rw [k_rn (by decide), k_rn (by decide), k_rs]
    have pt3 : (k_wr (k_wr (k_wr (k_seat ((U2.2.1 (own + 15)).eraseIdx i) (k_wr P2 45 (dl U own t) 0)) 43 (dl U own t) 4) 44 (dl U own t) cc) 200 (own + 25) v).1 44 (dl U own t) = cc := by rw [k_rn (by decide), k_rs]
    have pt4 : (k_wr (k_wr (k_wr (k_seat ((U2.2.1 (own + 15)).eraseIdx i) (k_wr P2 45 (dl U own t) 0)) 43 (dl U own t) 4) 44 (dl U own t) cc) 200 (own + 25) v).1 200 (own + 25) = v := k_rs
    have ps : ∀ a, a ∈ (U2.2.1 (own + 15)).eraseIdx i → (k_wr (k_wr (k_wr (k_seat ((U2.2.1 (own + 15)).eraseIdx i) (k_wr P2 45 (dl U own t) 0)) 43 (dl U own t) 4) 44 (dl U own t) cc) 200 (own + 25) v).1 52 a = nI (k_ix a ((U2.2.1 (own + 15)).eraseIdx i)) := fun a ha => by
      rw [k_rn (by decide), k_rn (by decide), k_rn (by decide), k_stS ha]
    have p2e : (k_wr (k_wr (k_wr (k_seat ((U2.2.1 (own + 15)).eraseIdx i) (k_wr P2 45 (dl U own t) 0)) 43 (dl U own t) 4) 44 (dl U own t) cc) 200 (own + 25) v).2 = P2.2 := rfl
    generalize k_wr (k_wr (k_wr (k_seat ((U2.2.1 (own + 15)).eraseIdx i) (k_wr P2 45 (dl U own t) 0)) 43 (dl U own t) 4) 44 (dl U own t) cc) 200 (own + 25) v = P3 at *
    have pr : ∀ f a, a < r.1 → f ≠ 45 → f ≠ 52 → f ≠ 43 → f ≠ 44 → f ≠ 200 → f ≠ 223 → f ≠ 149 → f ≠ 46 → P3.1 f a = P.1 f a := fun f a ha z1 z2 z3 z4 z5 z6 z7 z8 => (pq f a z1 z2 z3 z4 z5).trans (fP f a ha (nX f a z6 z7 z8))
    refine q Z2 P3 U' r2 nl' nw' hI' ⟨E3, ?_, ⟨?_, ?_⟩, ⟨?_, ?_⟩, ?_, ?_, ?_, ?_, ?_, ?_⟩ u14 ro2'
    · -- the log
      have := hK1.ext (P' := P3) (U' := U') (S' := Su t cc (ch t).length nw nl i l S) (xs := [r1.1]) (ch' := up1 ch t []) ((uO _ s15.1 s15.2).trans fU18) (by simp) (fun x hx z => by
        rw [List.mem_singleton] at hx
        subst hx
        have tz := E1.1.lro (E1.1.log (E1.1.hse tO1).2.2.2.2.2.2.2.1) z
        rw [tn] at tz
        exact absurd tz (by decide)) sr2 ⟨by rw [sA _ (by decide), tA _ (by decide)], by rw [sA _ (by decide), tA _ (by decide)], by rw [sA _ (by decide), tA _ (by decide)], by rw [sA _ (by decide), tA _ (by decide)], by rw [sA _ (by decide), tA _ (by decide)], by rw [sA _ (by decide), tA _ (by decide)], by rw [sA _ (by decide), tA _ (by decide)], by rw [sA _ (by decide), tA _ (by decide)], by rw [sA _ (by decide), tA _ (by decide)]⟩
        (fun f hf y hy => by
          have ylt : y < r1.1 := E1.lt (by rw [E1.1.lro (E1.1.log (E1.1.hse tO1).2.2.2.2.2.2.2.1) hy]; decide)
          rw [pq f y (fun z => by subst z; revert hf; decide) (fun z => by subst z; revert hf; decide) (fun z => by subst z; revert hf; decide) (fun z => by subst z; revert hf; decide) (fun z => by subst z; revert hf; decide)]
          exact fP1 f y ylt)
        (fun j x hx => by
          cases j with
          | succ j => simp at hx
          | zero =>
            simp only [List.getElem?_cons_zero, Option.some.injEq] at hx
            subst hx
            obtain ⟨q1, q2, q3, q4, q5, q6, q7, q8⟩ := sr3
            rw [Nat.add_zero]
            refine ⟨?_, ?_, by rw [q1]; decide⟩
            · unfold lg_row
              rw [q1, q2, q3, q4, q5, q6, q7, q8]
              refine ⟨?_, ?_, ?_, ?_, ?_, ?_, ?_, ?_⟩
              all_goals (rw [pq _ _ (by decide) (by decide) (by decide) (by decide) (by decide), hrow]; rfl)
            · exact Or.inl (by rw [pq _ _ (by decide) (by decide) (by decide) (by decide) (by decide), hrow]; rfl))
        (fun u u1 u2 hus => by
          have hne : u ≠ t := fun e => by
            subst e
            unfold undw at hus
            rw [ss1, up_s] at hus
            exact absurd hus (by decide)
          refine ⟨by rw [up1_n hne, up1_n hne], ?_⟩
          unfold undw at hus ⊢
          rw [ss1, up_n hne] at hus
          rw [tA _ (by decide)]
          exact hus)
        (fun u u1 u2 hus j hj => ((hI1.2.2.2.2.2.2.1 u u1 u2 hus).2.2.2.1 j hj).2.2.1)
      exact this
    · refine ⟨(E3.1.hse E3.2.1).1, ?_, hs.2.2.1, fun o ho => ?_⟩
      · rw [pq _ _ (by decide) (by decide) (by decide) (by decide) (by decide)]; exact hs2.2.1
      · have := hs2.2.2.2 o ho
        unfold k_th at this ⊢
        rw [u22]; exact this
    · have th1 : ∀ o, o < n → k_th U1 (own + 1) o + 1 < r1.1 := fun o ho => E1.lt (by rw [(k_th_t E1.1 hs1 ho).2]; decide)
      refine R_sh.cgU (U := U1) ?_ (fun o _ => by unfold k_th; rw [u22, u22a])
      refine hS1.keep (fun f hf o ho => ?_) (fun o ho => by rw [p2e, fPP]) (by rw [sA _ (by decide), tA _ (by decide)]) (by rw [sA _ (by decide), tA _ (by decide)]) (by rw [sA _ (by decide), tA _ (by decide)]) (fun o _ => ⟨by rw [sV _ (by decide)], by rw [sV _ (by decide)], by rw [sV _ (by decide)]⟩) (fun x _ _ => by rw [sV _ (by decide)])
      rw [pq f _ (by omega) (by omega) (by omega) (by omega) (by omega)]
      exact fP1 f _ (by have := th1 o ho; omega)
    · refine ⟨(E3.1.hse E3.2.1).2.1, ?_, hs5.2.2.1, fun o ho => ?_⟩
      · rw [pq _ _ (by decide) (by decide) (by decide) (by decide) (by decide)]; exact hs52.2.1
      · have := hs52.2.2.2 o ho
        unfold k_th at this ⊢
        rw [u22]; exact this
    · have th5 : ∀ o, o < n → k_th U (own + 5) o + 1 < r.1 := fun o ho => E.lt (by rw [(k_th_t E.1 hs5 ho).2]; decide)
      have dj : ∀ o o', o < n → o' < n → k_th U (own + 5) o ≠ k_th U (own + 1) o' := fun o o' ho ho' e => by
        have t5 := (E.1.shf hs5.1).1
        have t1 := (E.1.shf hs.1).1
        have := (E.2.2.2.1 _ o _ o' _ (Or.inl t5) (Or.inl t1) (hs5.2.2.2 o ho) (by rw [e]; exact hs.2.2.2 o' ho')).1
        omega
      refine R_sh.cgU (U := U) ?_ (fun o _ => by unfold k_th; rw [u22, fU22 _ l6'])
      refine hS5.keep (fun f hf o ho => ?_) (fun o ho => ?_) (sA _ (by decide)) (sA _ (by decide)) (sA _ (by decide)) (fun o _ => ?_) (fun x x1 _ => ?_)
      · rw [pq f _ (by omega) (by omega) (by omega) (by omega) (by omega)]
        refine fP f _ (by have := th5 o ho; omega) (fun z => ?_)
        rcases z with z | z | z
        · obtain ⟨_, o', ho', e⟩ := z; exact dj o o' ho ho' e
        · omega
        · omega
      · rw [p2e]
        refine fP2 _ (th5 o ho) (fun ⟨o', ho', e⟩ => dj o o' ho ho' (by omega))
      · rw [sV _ (by decide), sV _ (by decide), sV _ (by decide)]
        exact thi.1 _ (by omega)
      · rw [sV _ (by decide)]
        exact thi.2 _ (by omega)
    · refine ⟨by rw [u14]; exact e1, by rw [u14]; exact e2, fun u u1 u2 => ?_, fun u u1 u2 v v1 v2 v3 => ?_, fun u u1 u2 => ?_, ?_, fun j u hj => ?_⟩
      · rw [dlU]
        obtain ⟨q1, q2, q3, q4, q5, q6, q7, q8, q9, q10, q11⟩ := e3 u u1 u2
        have ul := (dlt' u u1 u2).1
        have pr' : ∀ f, f ≠ 45 → f ≠ 52 → f ≠ 43 → f ≠ 44 → f ≠ 200 → f ≠ 223 → f ≠ 149 → f ≠ 46 → P3.1 f (dl U own u) = P.1 f (dl U own u) := fun f => pr f _ ul
        rw [pr' 40 (by decide) (by decide) (by decide) (by decide) (by decide) (by decide) (by decide) (by decide), pr' 41 (by decide) (by decide) (by decide) (by decide) (by decide) (by decide) (by decide) (by decide), pr' 42 (by decide) (by decide) (by decide) (by decide) (by decide) (by decide) (by decide) (by decide), pr' 47 (by decide) (by decide) (by decide) (by decide) (by decide) (by decide) (by decide) (by decide), pr' 48 (by decide) (by decide) (by decide) (by decide) (by decide) (by decide) (by decide) (by decide), pr' 49 (by decide) (by decide) (by decide) (by decide) (by decide) (by decide) (by decide) (by decide), pr' 50 (by decide) (by decide) (by decide) (by decide) (by decide) (by decide) (by decide) (by decide), sA 49 (by decide), sA 50 (by decide), sA 55 (by decide), sA 56 (by decide), sA 57 (by decide), sA 58 (by decide), ss1, ss2, ss3, sV 52 (by decide)]
        by_cases c : u = t
        · subst c
          rw [up_s, up_s, up_s, pt1, pt2, pt3]
          refine ⟨q1, q2, q3, rfl, rfl, rfl, ?_, q8, q9, q10, q11⟩
          rw [pq _ _ (by decide) (by decide) (by decide) (by decide) (by decide), fP1 _ _ (by omega), ea1]
          have := (hI1.2.2.2.2.2.2.1 u u1 u2 (Or.inl (by unfold undw at hu ⊢; rw [ytbm_A (by decide)]; exact hu))).1
          rw [up1_s, List.drop_length] at this
          exact this.symm
        · rw [up_n c, up_n c, up_n c, pd 43 u u1 u2 c (by decide), pd 44 u u1 u2 c (by decide), pd 45 u u1 u2 c (by decide), (ytbm_u c _ _).1]
          refine ⟨q1, q2, q3, q4, q5, q6, ?_, q8, q9, q10, q11⟩
          rw [pq _ _ (by decide) (by decide) (by decide) (by decide) (by decide)]
          refine (fP _ _ ul (fun z => ?_)).trans q7
          rcases z with z | z | z
          · exact absurd z.1 (by decide)
          · exact absurd z (by decide)
          · exact dne u u1 u2 c z.2
      · rw [dlU]
        have c : u ≠ t := fun e => by
          subst e
          rw [ss3, up_s, show (0 : Int32) = nI 0 from rfl, i_le (by omega) (by omega)] at v2
          omega
        rw [ss3, up_n c] at v2
        rw [p2e, fP2 _ (dlt' u u1 u2).2.2 (nY _ (by rw [(dl_t E e1 u1 u2).2.2]; decide)), sA 54 (by decide)]
        exact e4 u u1 u2 v v1 v2 v3
      · rw [dlU]
        obtain ⟨g0, g1, g2, g3⟩ := e5 u u1 u2
        refine ⟨g0, g1, by rw [pr _ _ (dlt' u u1 u2).1 (by decide) (by decide) (by decide) (by decide) (by decide) (by decide) (by decide) (by decide)]; exact g2, fun hus => ?_⟩
        have hne : u ≠ t := fun e => by
          subst e
          unfold undw at hus
          rw [ss1, up_s] at hus
          exact absurd hus (by decide)
        unfold undw at hus
        rw [ss1, up_n hne] at hus
        obtain ⟨j1, j2⟩ := g3 hus
        refine ⟨fun z => by unfold undw at z; rw [ss1, up_n hne] at z; have := j1 z; omega, fun j hj => ?_⟩
        rw [up1_n hne] at hj
        unfold ar
        rw [sA 42 (by decide)]
        exact j2 j hj
      · rw [u15, e15', sv1]
        exact List.map_congr_left (fun u _ => (dlU u).symm)
      · rw [dlU]
        rw [sv1] at hj
        have hj2 : ((U2.2.1 (own + 15)).eraseIdx i)[j]? = some (dl U own u) := by rw [e15', List.getElem?_map, hj]; rfl
        rw [ps _ (List.mem_of_getElem? hj2)]
        obtain ⟨jl, je⟩ := List.getElem?_eq_some_iff.mp hj2
        have := k_ix_get ndE jl
        rw [je] at this
        rw [this]
    · unfold K_en at kEn ⊢
      rw [u16, kEn, sA 61 (by decide)]
      exact List.map_congr_left (fun e _ => (dlU _).symm)
    · intro u u1 u2 hin
      have hne : u ≠ t ∧ S.2 47 u = 2 := by
        rcases hin with z | z
        · have c : u ≠ t := fun e => by subst e; rw [ss1, up_s] at z; exact absurd z (by decide)
          rw [ss1, up_n c] at z
          exact ⟨c, z⟩
        · omega
      have := kAs u u1 u2 (Or.inl hne.2)
      have al := (dlt' u u1 u2).2.1
      have pa : ∀ f, f ≠ 45 → f ≠ 52 → f ≠ 43 → f ≠ 44 → f ≠ 200 → f ≠ 223 → f ≠ 149 → f ≠ 46 → P3.1 f (dl U own u + 1) = P.1 f (dl U own u + 1) := fun f => pr f _ al
      unfold dp o_1 at this ⊢
      rw [dlU, pa 20 (by decide) (by decide) (by decide) (by decide) (by decide) (by decide) (by decide) (by decide), pa 21 (by decide) (by decide) (by decide) (by decide) (by decide) (by decide) (by decide) (by decide), pa 22 (by decide) (by decide) (by decide) (by decide) (by decide) (by decide) (by decide) (by decide), pa 23 (by decide) (by decide) (by decide) (by decide) (by decide) (by decide) (by decide) (by decide), pa 25 (by decide) (by decide) (by decide) (by decide) (by decide) (by decide) (by decide) (by decide), pa 24 (by decide) (by decide) (by decide) (by decide) (by decide) (by decide) (by decide) (by decide), sA 67 (by decide), sA 68 (by decide), sA 69 (by decide), sA 70 (by decide), sA 71 (by decide), sA 7 (by decide)]
      rw [ss1, up_n hne.1]
      exact this
    · have l3' : v_L nl' (Su t cc (ch t).length nw nl i l S).2 = (v_L nl S.2).filter (fun x => x.1 != nI t) := l3
      refine kLk.drop n40 d1 hLk e1 e2 (fun u u1 u2 => (e3 u u1 u2).1) h1 h2 u14 (fun o _ => spU' o) (fun o ho => ?_) (fun o ho => ?_) (fun o ho => ?_) (fun o y ho hy => ?_) (fun f hf o y ho hy => ?_) (fun f hf u u1 u2 hne => ?_) (fun o ho => ?_) (fun u u1 u2 => ?_) l3 w3 (fun u hne => by rw [ss1, up_n hne]) ⟨by rw [ss1, up_s]; decide, by unfold undw; rw [ss1, up_s]; decide⟩ (fun u hne => by rw [ss3, up_n hne]) (sA _ (by decide)) (sA _ (by decide))
      · rw [spU', u22, fU22 _ l13]; exact kLk.1 o ho
      · show U'.2.1 (k_sp U' own o + 1) = _
        rw [spU']; exact uh o ho
      · show U'.2.1 (k_sp U' own o + 2) = _
        rw [spU']; exact uq o ho
      · rcases hy with hy | hy
        · exact (fZ y (yH o y ho hy).1).2
        · exact (fZ y (yQ o y ho hy).1).2
      · have yl : y < r.1 := by
          rcases hy with hy | hy
          · exact (yH o y ho hy).1
          · exact (yQ o y ho hy).1
        exact pr f y yl (fun z => by subst z; revert hf; decide) (fun z => by subst z; revert hf; decide) (fun z => by subst z; revert hf; decide) (fun z => by subst z; revert hf; decide) (fun z => by subst z; revert hf; decide) (fun z => by subst z; revert hf; decide) (fun z => by subst z; revert hf; decide) (fun z => by subst z; revert hf; decide)
      · by_cases c : f = 43
        · exact pd f u u1 u2 hne (Or.inr (Or.inl c))
        · exact pr f _ (dlt' u u1 u2).1 (fun z => by subst z; revert hf; decide) (fun z => by subst z; revert hf; decide) c (fun z => by subst z; revert hf; decide) (fun z => by subst z; revert hf; decide) (fun z => by subst z; revert hf; decide) (fun z => by subst z; revert hf; decide) (fun z => by subst z; revert hf; decide)
      · exact pr _ _ (by have := (sp1 o ho).1; omega) (by decide) (by decide) (by decide) (by decide) (by decide) (by decide) (by decide) (by decide)
      · rw [uW1]
        by_cases c : u = t
        · subst c; rw [if_pos rfl, if_pos rfl]
        · rw [if_neg (dne u u1 u2 c), if_neg c]; exact fU1 _ (dlt' u u1 u2).1
    · intro o ho v ev hv
      rw [spU', pr _ _ (by have := (sp1 o ho).1; omega) (by decide) (by decide) (by decide) (by decide) (by decide) (by decide) (by decide) (by decide), sA 98 (by decide), sA 99 (by decide)]
      rw [sA 97 (by decide)] at ev
      obtain ⟨s1, s2, s3, s4⟩ := E.1.spt (spt o ho)
      have := kVe o ho v ev hv
      rw [p2e, fP2 _ (E.lt (by rw [s3]; decide)) (nY _ (by rw [s3]; decide)), fP2 _ (E.lt (by rw [s4]; decide)) (nY _ (by rw [s4]; decide))]
      exact this
    · obtain ⟨m1, m2, m3, m4, m5, m6, m7, m8, m9, m10, m11, m12, m13, m14, m15', m16, m17⟩ := kMi
      have o0 : own < r.1 := E.lt (by rw [tO]; decide)
      have t3 := (E.1.shf a1).2.1
      have t4 := (E.1.shf a1).2.2
      have t24 := (E.1.rng a9).2.2.2.2
      have pm : ∀ f a, a < r.1 → f ≠ 45 → f ≠ 52 → f ≠ 43 → f ≠ 44 → f ≠ 200 → f ≠ 223 → f ≠ 149 → f ≠ 46 → P3.1 f a = P.1 f a := pr
      have l17 := olt 17 (by omega) (by rw [a8]; decide)
      have l19 := olt 19 (by omega) (by rw [a9]; decide)
      have l25 := olt 25 (by omega) (by rw [a10]; decide)
      have l3x : own + 3 < r.1 := E.lt (by rw [show own + 3 = own + 1 + 2 from rfl, t3]; decide)
      unfold K_mi
      rw [pm 250 own o0 (by decide) (by decide) (by decide) (by decide) (by decide) (by decide) (by decide) (by decide), pm 251 own o0 (by decide) (by decide) (by decide) (by decide) (by decide) (by decide) (by decide) (by decide), pm 83 _ l17 (by decide) (by decide) (by decide) (by decide) (by decide) (by decide) (by decide) (by decide), pm 81 _ l17 (by decide) (by decide) (by decide) (by decide) (by decide) (by decide) (by decide) (by decide), pm 82 _ l17 (by decide) (by decide) (by decide) (by decide) (by decide) (by decide) (by decide) (by decide), pt4, pm 201 _ l25 (by decide) (by decide) (by decide) (by decide) (by decide) (by decide) (by decide) (by decide), pm 202 _ l25 (by decide) (by decide) (by decide) (by decide) (by decide) (by decide) (by decide) (by decide), pm 203 _ l25 (by decide) (by decide) (by decide) (by decide) (by decide) (by decide) (by decide) (by decide), pm 204 _ l25 (by decide) (by decide) (by decide) (by decide) (by decide) (by decide) (by decide) (by decide), pm 205 _ l25 (by decide) (by decide) (by decide) (by decide) (by decide) (by decide) (by decide) (by decide), pm 206 _ l25 (by decide) (by decide) (by decide) (by decide) (by decide) (by decide) (by decide) (by decide), pm 125 _ l19 (by decide) (by decide) (by decide) (by decide) (by decide) (by decide) (by decide) (by decide), pm 126 _ l19 (by decide) (by decide) (by decide) (by decide) (by decide) (by decide) (by decide) (by decide), pm 103 _ l3x (by decide) (by decide) (by decide) (by decide) (by decide) (by decide) (by decide) (by decide), p2e, fP2 (own + 24) (E.lt (by rw [show own + 24 = own + 19 + 5 from rfl, t24]; decide)) (nY _ (by rw [show own + 24 = own + 19 + 5 from rfl, t24]; decide)), fP2 (own + 4) (E.lt (by rw [show own + 4 = own + 1 + 3 from rfl, t4]; decide)) (nY _ (by rw [show own + 4 = own + 1 + 3 from rfl, t4]; decide)), sg1, sA 95 (by decide), sA 31 (by decide)]
      rw [sF 0 (by decide), sF 1 (by decide), sF 2 (by decide), sF 14 (by decide), sF 15 (by decide), sF 92 (by decide), sF 63 (by decide), sF 64 (by decide), sF 65 (by decide), sF 66 (by decide), sF 16 (by decide), sF 93 (by decide), sF 94 (by decide), sF 30 (by decide)]
      exact ⟨m1, m2, m3, m4, m5, hv, m7, m8, m9, m10, m11, m12, m13, m14, m15', m16, m17⟩
  simp (decide := true) (disch := first | assumption | omega) only [↓u135_0, ↓x_nil, ↓x_om, ↓x_aload_0r, ↓x_aload_0n, ↓x_aload_0q, ↓x_aload_1r, ↓x_aload_1n, ↓x_aload_1q, ↓x_iconst_0, ↓x_invokevirtual, mt_12_147, x_ps0, x_ps1, x_l40, x_l41, x_l42, x_l43, x_l44, ↓x_cv2, ↓x_istore_3, x_cl_i, x_cl_r, x_cl_n, x_cl_q, x_cl_0, x_cl_l, ↓x_getfield, ft_12_44, ↓x_new, ct_12_101, ↓x_dup_i, ↓x_dup_r, ↓x_dup_n, ↓x_iconst_5, ft_12_170, ↓x_iconst_m1, ↓x_invokespecial, mt_12_103, ↓x_ci7_2, mt_12_106, ↓x_cv1, mt_12_185, ↓x_iconst_4, ↓x_putfield, ft_12_125, x_fit0, x_fit1, x_fit2r, x_fit2n, x_fit2q, ↓x_iload_2, ft_12_194, ft_12_58, ft_12_332, ↓x_iconst_1, ↓x_iadd, ↓x_iload_3, ↓x_ireturn, rt135, Int.reduceAdd, Nat.reduceAdd, true_and, and_true, true_or, or_true, false_or, or_false, reduceCtorEq, false_and, and_false, and_self, or_self, false_implies, true_implies, not_true_eq_false, not_false_eq_true, implies_true, Option.some.injEq, ki12, kg12, kv12_7, kg2, kv2_0, ki7, ki4, kv2_3, kw2_3, k_rs, k_rn, k_r2, k_c2, kv2_4, kw2_4, kv12_9, kg10, kv10_0, kw10_0, up_s, up_n]
  refine fin _ ?_
  have k0 : P2.1 200 (own + 25) = S.1 62 := by
    rw [fP _ _ (olt 25 (by omega) (by rw [a10]; decide)) (nX _ _ (by decide) (by decide) (by decide))]
    exact kMi.2.2.2.2.2.1
  rw [k_stN (by decide), k_rn (by decide), k0]
end RW
