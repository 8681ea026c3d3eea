/-! make: the reference's side -/
section UZ
variable {S S' : m_S} {A A' : m_A} {n b l nl nw nr na ne c T j : Nat} {ch : Nat → List Nat} {s p v d : Int32}
theorem I_row.cg3 (h : I_row b A j) (hw : A' 17 j = A 17 j) (ho : A' 18 j = A 18 j) (hob : A' 19 j = A 19 j) (hk : A' 20 j = A 20 j) (ha : A' 21 j = A 21 j) (hb : A' 22 j = A 22 j) (hans : A' 23 j = A 23 j) (hm : md A' j = md A j) (hn : md A j ≤ n) (h0 : A 17 j = 0 → md A j < n)
    (s1 : ∀ q, q < n → A' 4 q = A 4 q) (s2 : ∀ q, q < n → A' 5 q = A 5 q) (s3 : ∀ q, q < n → A' 6 q = A 6 q) : I_row b A' j := by
  obtain ⟨h1, h2, h3⟩ := h
  refine ⟨fun z => ?_, fun z => ?_, fun z => ?_⟩
  · rw [hw] at z
    have := h0 z
    rw [hob, hk, hb, ha, hm, s1 _ this, s2 _ this, s3 _ this]
    exact h1 z
  · rw [hw] at z
    obtain ⟨t, o, k, a1, a2, a3, a4, a5, a6, a7, a8, a9, b1, b2, b3⟩ := h2 z
    refine ⟨t, o, k, ho.trans a1, a2, a3, hob.trans a4, by rw [hm]; exact a5, hk.trans a6, a7, by rw [hm, ha, hb]; exact a8, by rw [s1 o (by omega)]; exact a9, fun y => by rw [hans, hm]; exact b1 y, fun y => ?_, fun y => ?_⟩
    · obtain ⟨q, q1, q2, q3⟩ := b2 y
      exact ⟨q, by rw [hm]; exact q1, hb.trans q2, by rw [s1 q (by omega)]; exact q3⟩
    · obtain ⟨q, q1, q2, q3, q4⟩ := b3 y
      exact ⟨q, by rw [hm]; exact q1, q2, hb.trans q3, by rw [s1 q (by omega)]; exact q4⟩
  · rw [hw] at z
    obtain ⟨t, a1, a2⟩ := h3 z
    exact ⟨t, ho.trans a1, a2⟩
def fp_mk : List Nat := [4, 5, 7, 6, 9, 10, 11, 97, 98, 99]
/-- what making does to the reference -/
def Mk (s p v d : Int32) (n nr : Nat) (S S' : m_S) : Prop := (∀ f, f ∉ fp_R → f ∉ fp_mk → S'.2 f = S.2 f) ∧ (∀ f, f ∉ [3, 32, 13] → S'.1 f = S.1 f) ∧ S'.1 3 = nI (n + 1) ∧ S'.1 32 = nI (n + 1) ∧ S'.1 13 = nI (nr + 1) ∧ rw_eq nr S.2 S'.2 ∧ rowAt S'.2 nr 0 0 (nI n) s (if y_cnt s = true then v else 0) p 0 (-1) ∧
  S'.2 4 = va_up (S.2 4) n s ∧ S'.2 5 = va_up (S.2 5) n p ∧ S'.2 7 = va_up (S.2 7) n d ∧ S'.2 6 = va_up (S.2 6) n (y_vm s v) ∧ S'.2 9 = va_up (va_up (S.2 9) n (y_vm s v)) (40 + n) (y_vm s v) ∧ S'.2 10 = va_up (va_up (S.2 10) n 0) (40 + n) 0 ∧ S'.2 11 = va_up (va_up (S.2 11) n 0) (40 + n) 0 ∧
  S'.2 97 = va_up (S.2 97) n 1 ∧ S'.2 98 = va_up (S.2 98) (401 * n) 0 ∧ S'.2 99 = va_up (S.2 99) (401 * n) (y_dig S'.1 S'.2 (40 + n))
theorem dg_mk {F : Nat → Int32} {A : m_A} {x : Nat} (hs : y_sort F A x = s) (hv : A 9 x = v) (hz : A 10 x = 0) (ht : A 11 x = 0) : y_dig F A x = dg0 s v := by
  unfold y_dig dg0
  rw [hs, hz, ht, hv]
  by_cases c4 : s = 4
  · rw [if_pos c4, if_pos c4]; rfl
  · rw [if_neg c4, if_neg c4]
    by_cases c5 : s = 5
    · rw [if_pos c5, if_pos c5]
      exact dgM_cg 8 _ _ 0 17 (by omega) (fun i hi hb => by
        exfalso
        revert i
        decide)
    · rw [if_neg c5, if_neg c5]
theorem I_make (hI : I_all n b l nl nw nr na ne ch 0 c T S) (hc : c + 1 ≤ 512) (hl : l = 0) (hn : n < 40) (mk : Mk s p v d n nr S S') {z dd : Nat} (hz : z < 8) (ez : s = nI z) (ed : d = nI (dd + 1)) (hd : dd ≤ 5) (h0 : z = 0 → dd ≤ 4) (hp : (p = -1 ∧ dd = 0) ∨ ∃ q, q < n ∧ p = nI q ∧ S.2 4 q = 0 ∧ S.2 7 q = nI dd) : I_all (n + 1) b l nl nw (nr + 1) na ne ch 0 (c + 1) (T + 1) S' := by
  obtain ⟨hL, hD, hE, hK, hV, hM, hP, hX⟩ := hI
  obtain ⟨eA, eF, m1, m2, m3, rwe, rwn, e1, e2, e3, e4, e5, e6, e7, e8, e9, e10⟩ := mk
  have ace : ac_eq S.2 S'.2 := ⟨eA _ (by decide) (by decide), eA _ (by decide) (by decide), eA _ (by decide) (by decide), eA _ (by decide) (by decide), eA _ (by decide) (by decide), eA _ (by decide) (by decide), eA _ (by decide) (by decide), eA _ (by decide) (by decide), eA _ (by decide) (by decide)⟩
  have est := eA 47 (by decide) (by decide)
  have lv0 : v_lv l S.2 = [] := by subst hl; rfl
  have nou : ∀ u, 1 ≤ u → u ≤ b → ¬ undw S.2 u := fun u u1 u2 hu => by
    have := (hD.2.2.2.2.2.2.2.2.1 u).mpr ⟨u1, u2, hu⟩
    rw [lv0] at this
    cases this
  have nou' : ∀ u, 1 ≤ u → u ≤ b → ¬ undw S'.2 u := fun u u1 u2 hu => nou u u1 u2 (by unfold undw at hu ⊢; rw [est] at hu; exact hu)
  have no2 : ∀ u, 1 ≤ u → u ≤ b → ¬ S'.2 47 u = 2 := fun u u1 u2 h => nou' u u1 u2 (Or.inr h)
  obtain ⟨g1, g2, g3, g4, g5, g6, g7, g8, g9, g10⟩ := hL
  have lt0 : ∀ q, q < n → S'.2 4 q = S.2 4 q ∧ S'.2 5 q = S.2 5 q ∧ S'.2 7 q = S.2 7 q ∧ S'.2 6 q = S.2 6 q := fun q hq => by
    rw [e1, e2, e3, e4]
    exact ⟨up_n (by omega), up_n (by omega), up_n (by omega), up_n (by omega)⟩
  have mdn : md S'.2 (nr + 1) = n + 1 := by
    unfold md
    rw [y_cw_s, Nat.zero_add, if_pos rwn.1]
    have := md_cg rwe (Nat.le_refl nr)
    unfold md at this g2
    rw [this, ← g2]
  refine ⟨?_, ?_, ?_, ?_, ?_, ?_, ?_, ?_⟩
  · refine ⟨m3, mdn.symm, ⟨by omega, fun o ho => ?_⟩, (eF _ (by decide)).trans g4, g5, fun i hi => ?_, fun u u1 u2 hu => ?_, fun u u1 u2 hu => absurd hu (nou' u u1 u2), fun u u' u1 u2 u3 u4 hu1 => absurd hu1 (nou' u u1 u2), fun x hx => ?_⟩
    · by_cases co : o = n
      · subst co
        rw [e1, e2, e3, up_s, up_s, up_s]
        refine ⟨z, dd, hz, ez, ed, hd, h0, ?_⟩
        rcases hp with h | ⟨q, q1, q2, q3, q4⟩
        · exact Or.inl h
        · exact Or.inr ⟨q, q1, q2, by rw [up_n (by omega)]; exact q3, by rw [up_n (by omega)]; exact q4⟩
      · obtain ⟨s', d', k1, k2, k3, k4, k5, k6⟩ := g3.2 o (by omega)
        obtain ⟨y1, y2, y3, y4⟩ := lt0 o (by omega)
        refine ⟨s', d', k1, by rw [y1]; exact k2, by rw [y3]; exact k3, k4, k5, ?_⟩
        rw [y2]
        rcases k6 with h | ⟨q, q1, q2, q3, q4⟩
        · exact Or.inl h
        · obtain ⟨x1, x2, x3, x4⟩ := lt0 q (by omega)
          exact Or.inr ⟨q, q1, q2, by rw [x1]; exact q3, by rw [x3]; exact q4⟩
    · by_cases ci : i = nr
      · subst ci
        have em : md S'.2 i = n := by rw [md_cg rwe (Nat.le_refl _)]; exact g2.symm
        obtain ⟨w1, w2, w3, w4, w5, w6, w7, w8⟩ := rwn
        refine ⟨fun _ => ?_, fun y => by rw [w1] at y; exact absurd y (by decide), fun y => by rw [w1] at y; exact absurd y (by decide)⟩
        rw [em, w3, w4, w5, w6, e1, e2, e4, up_s, up_s, up_s]
        refine ⟨rfl, rfl, rfl, ?_, fun y => ?_⟩
        · unfold y_vm
          by_cases c1 : y_cnt s = true
          · rw [if_pos c1, if_pos c1]
            rw [if_neg (fun y => by rw [y] at c1; exact absurd c1 (by decide))]
          · rw [if_neg c1, if_neg c1]
        · have : y_cnt s = false := y
          rw [this, if_neg (by decide)]
      · obtain ⟨r1, r2, r3, r4, r5, r6, r7, r8⟩ := rwe i (by omega)
        refine (g6 i (by omega)).cg3 (n := n) r1 r2 r3 r4 r5 r6 r7 (md_cg rwe (by omega)) (by rw [g2]; exact md_mono (by omega)) (fun y => ?_) (fun q hq => (lt0 q hq).1) (fun q hq => (lt0 q hq).2.1) (fun q hq => (lt0 q hq).2.2.2)
        have m1 : md S.2 (i + 1) ≤ n := by rw [g2]; exact md_mono (by omega)
        unfold md at m1 ⊢
        rw [y_cw_s, Nat.zero_add, if_pos y] at m1
        omega
    · rw [est] at hu
      rcases hu with hu | hu
      · exact absurd hu (nou' u u1 u2)
      · exact (g7 u u1 u2 (Or.inr hu)).cg ace rwe (by omega) (Nat.le_refl _) (by rw [eA _ (by decide) (by decide)]) (by rw [eA _ (by decide) (by decide)])
    · rw [e6]
      by_cases c1 : x = 40 + n
      · rw [c1, up_s]; exact ⟨0, by omega, rfl⟩
      · rw [up_n c1]
        by_cases c2 : x = n
        · rw [c2, up_s]; exact ⟨0, by omega, rfl⟩
        · rw [up_n c2]; exact g10 x hx
  · unfold I_de I_dl v_lv undw inp at hD ⊢
    rw [eF 44 (by decide), eF 45 (by decide)]
    rw [eA 47 (by decide) (by decide), eA 48 (by decide) (by decide), eA 51 (by decide) (by decide), eA 52 (by decide) (by decide), eA 55 (by decide) (by decide), eA 56 (by decide) (by decide), eA 57 (by decide) (by decide), eA 46 (by decide) (by decide), eA 67 (by decide) (by decide), eA 68 (by decide) (by decide), eA 71 (by decide) (by decide), eA 54 (by decide) (by decide)]
    exact hD
  · refine hE.cg (by omega) rwe (fun j j1 j2 => ?_) (eF _ (by decide)) (eA _ (by decide) (by decide)) (eA _ (by decide) (by decide)) (eA _ (by decide) (by decide)) (fun _ _ _ _ => rfl) (fun _ _ _ => by rw [eA _ (by decide) (by decide)]) (fun u _ _ => by rw [est])
    have : j = nr := by omega
    subst this
    rw [rwn.1]; decide
  · obtain ⟨k1, k2, k3, k4, k5, k6, k7, k8, k9, k10, k11, ⟨kq, G, k13⟩, k12⟩ := hK
    have vl : v_L nl S'.2 = v_L nl S.2 := vL_cg (fun f hf => eA f (by clear eA eF; revert f; decide) (by clear eA eF; revert f; decide))
    have vw : v_W nw S'.2 = v_W nw S.2 := vW_cg (fun f hf => eA f (by clear eA eF; revert f; decide) (by clear eA eF; revert f; decide))
    have noL : ∀ x, x ∉ v_L nl S.2 := fun x hx => by
      obtain ⟨u, o, v, a1, a2, a3, a4, _⟩ := k5 x hx
      exact nou u a2 a3 a4
    have noW : ∀ x, x ∉ v_W nw S.2 := fun x hx => by
      obtain ⟨u, o, a1, a2, a3, a4, _⟩ := k6 x hx
      exact nou u a2 a3 (Or.inr a4)
    unfold I_lk I_gh
    rw [vl, vw, eF 72 (by decide), eF 80 (by decide)]
    exact ⟨k1, k2, k3, by unfold w_ah; rw [eA _ (by decide) (by decide)]; exact k4, fun x hx => absurd hx (noL x), fun x hx => absurd hx (noW x), k7, fun u u1 u2 h => absurd h (no2 u u1 u2), fun x hx => absurd hx (noL x), k10, fun u u1 u2 h => absurd h (nou' u u1 u2), ⟨fun x hx => absurd hx (noW x), G, fun u u1 u2 h => absurd h (nou' u u1 u2)⟩, fun u u1 u2 h => absurd h (nou' u u1 u2)⟩
  · intro o ho
    rw [e8, e9, e10, e1, e4]
    by_cases co : o = n
    · subst co
      rw [up_s, up_s, up_s, up_s, up_s]
      refine ⟨1, rfl, by omega, by omega, rfl, dg_mk ?_ (by rw [e5, up_s]) (by rw [e6, up_s]) (by rw [e7, up_s])⟩
      unfold y_sort
      rw [if_neg (by omega), show (40 + o) % 40 = o by omega, e1, up_s]
    · rw [up_n co, up_n (by omega), up_n (by omega), up_n co, up_n co]; exact hV o (by omega)
  · obtain ⟨y1, y2, y3, y4, ⟨f, y5, y5'⟩, y6, y7, y8, y9, y10⟩ := hM
    exact ⟨m1, m2, (eF _ (by decide)).trans y3, by rw [eF _ (by decide)]; exact y4, ⟨f, by omega, (eF _ (by decide)).trans y5'⟩, by rw [eF _ (by decide)]; exact y6, by rw [eA _ (by decide) (by decide)]; exact y7, by rw [eF _ (by decide)]; exact y8, by rw [eF _ (by decide)]; exact y9, by rw [eF _ (by decide)]; exact y10⟩
  · obtain ⟨p1, p2, p3, p4, p5, p6, p7⟩ := hP
    have elv : v_lv l S'.2 = v_lv l S.2 := by unfold v_lv; rw [eA _ (by decide) (by decide)]
    unfold I_po
    rw [elv, eF 66 (by decide), eA 47 (by decide) (by decide), eA 52 (by decide) (by decide), eA 55 (by decide) (by decide), eA 71 (by decide) (by decide)]
    exact ⟨by omega, by omega, hc, by omega, by omega, by omega, p7⟩
  · intro u u1 u2 hin
    rcases hin with h | h
    · exact absurd h (no2 u u1 u2)
    · omega
end UZ
