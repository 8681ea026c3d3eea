/-! what stays under steps -/
section RQ
variable {S S' S'' : m_S} {A A' : m_A} {n b l nl nw nr na ne t i k cur c T : Nat} {ch ch' : Nat → List Nat}
def fp_tb : List Nat := [17, 18, 19, 20, 21, 22, 23, 24, 53, 52, 9, 10, 11, 12]
theorem ytb_A' {f : Nat} (h : f ∉ fp_tb) : (y_tb1 t S).2 f = S.2 f := ytb_A ⟨nmem h (by decide), nmem h (by decide), nmem h (by decide), nmem h (by decide), nmem h (by decide), nmem h (by decide), nmem h (by decide), nmem h (by decide), nmem h (by decide), nmem h (by decide), nmem h (by decide), nmem h (by decide), nmem h (by decide), nmem h (by decide)⟩
theorem ytbm_A {f : Nat} (h : f ∉ fp_tb) : ∀ (m : Nat) (S : m_S), (y_tb t m S).2 f = S.2 f
  | 0, _ => rfl
  | m + 1, S => by rw [y_tb, ytbm_A h m, ytb_A' h]
theorem ytbm_F {f : Nat} (h : f ≠ 13) : ∀ (m : Nat) (S : m_S), (y_tb t m S).1 f = S.1 f
  | 0, _ => rfl
  | m + 1, S => by rw [y_tb, ytbm_F h m, ytb_F h]
theorem ytbm_u {u : Nat} (h : u ≠ t) : ∀ (m : Nat) (S : m_S), (y_tb t m S).2 52 u = S.2 52 u ∧ (y_tb t m S).2 53 u = S.2 53 u
  | 0, _ => ⟨rfl, rfl⟩
  | m + 1, S => by
    obtain ⟨h1, h2⟩ := ytbm_u h m (y_tb1 t S)
    obtain ⟨h3, h4⟩ := ytb_lm (t := t) (S := S)
    rw [y_tb, h1, h2, h3, h4, up_n h, up_n h]
    exact ⟨rfl, rfl⟩
theorem ytbm_r : ∀ (m nr : Nat) (S : m_S), S.1 13 = nI nr → nr + m ≤ 6000 → (y_tb t m S).1 13 = nI (nr + m) ∧ rw_eq nr S.2 (y_tb t m S).2 ∧ ∀ j, nr ≤ j → j < nr + m → (y_tb t m S).2 17 j = 3
  | 0, nr, S, e, _ => ⟨e, fun _ _ => ⟨rfl, rfl, rfl, rfl, rfl, rfl, rfl, rfl⟩, fun j h1 h2 => by omega⟩
  | m + 1, nr, S, e, hn => by
    obtain ⟨h1, h2, h3⟩ := ytbm_r m (nr + 1) (y_tb1 t S) (ytb_r e) (by omega)
    have rowq := ytb_row (t := t) e (by omega)
    have rwe := rw_of rowq.2
    refine ⟨by rw [y_tb, h1, show nr + 1 + m = nr + (m + 1) by omega], fun j hj => ?_, fun j j1 j2 => ?_⟩
    · obtain ⟨a1, a2, a3, a4, a5, a6, a7, a8⟩ := h2 j (by omega)
      obtain ⟨b1, b2, b3, b4, b5, b6, b7, b8⟩ := rwe j hj
      exact ⟨a1.trans b1, a2.trans b2, a3.trans b3, a4.trans b4, a5.trans b5, a6.trans b6, a7.trans b7, a8.trans b8⟩
    · rw [y_tb]
      by_cases c : j = nr
      · subst c; rw [(h2 j (by omega)).1]; exact rowq.1.1
      · exact h3 j (by omega) (by omega)
theorem I_tbm (h1 : 1 ≤ t) (h2 : t ≤ b) : ∀ (m nr : Nat) (ch : Nat → List Nat) (S : m_S), I_lg n b nr na ch S → undw S.2 t → m ≤ (ch t).length → nr + m ≤ 1500 → w_tb t m S ∧ I_lg n b (nr + m) na (up1 ch t ((ch t).drop m)) (y_tb t m S)
  | 0, nr, ch, S, h, _, _, _ => ⟨trivial, by rw [List.drop_zero, up1_id]; exact h⟩
  | m + 1, nr, ch, S, h, hu, hm, hn => by
    cases hc : ch t with
    | nil => rw [hc] at hm; simp at hm
    | cons i l =>
      obtain ⟨w, hI⟩ := I_tb h h1 h2 hu hc (by omega)
      have hm' : m ≤ (up1 ch t l t).length := by rw [up1_s]; rw [hc] at hm; simp only [List.length_cons] at hm; omega
      obtain ⟨w', hI'⟩ := I_tbm h1 h2 m (nr + 1) (up1 ch t l) (y_tb1 t S) hI (by unfold undw at hu ⊢; rw [ytb_A (by decide)]; exact hu) hm' (by omega)
      refine ⟨⟨w, w'⟩, ?_⟩
      rw [up1_s, up1_up1, show nr + 1 + m = nr + (m + 1) by omega] at hI'
      rw [List.drop_succ_cons]
      exact hI'
/-- the log under steps that undo and do nothing -/
theorem I_lg.cg {nr' : Nat} (h : I_lg n b nr na ch S) (hr : S'.1 13 = nI nr') (hle : nr ≤ nr') (rw' : rw_eq nr S.2 S'.2) (new : ∀ j, nr ≤ j → j < nr' → I_row b S'.2 j ∧ ¬ S'.2 17 j = 0) (ha : S'.1 33 = S.1 33) (ace : ac_eq S.2 S'.2)
    (es : S'.2 4 = S.2 4) (ep : S'.2 5 = S.2 5) (ed : S'.2 7 = S.2 7) (ev : S'.2 6 = S.2 6) (ez : S'.2 10 = S.2 10) (et : S'.2 11 = S.2 11) (ec : ∀ t, 1 ≤ t → t ≤ b → undw S'.2 t ∨ S'.2 47 t = 3 → ch' t = ch t)
    (ml : ∀ t, 1 ≤ t → t ≤ b → undw S'.2 t ∨ S'.2 47 t = 3 → S'.2 52 t = S.2 52 t ∧ S'.2 53 t = S.2 53 t) (st : ∀ t, 1 ≤ t → t ≤ b → (undw S'.2 t → undw S.2 t) ∧ (S'.2 47 t = 3 → undw S.2 t ∨ S.2 47 t = 3)) : I_lg n b nr' na ch' S' := by
  obtain ⟨g1, g2, g3, g4, g5, g6, g7, g8, g9, g10⟩ := h
  have us : ∀ u, 1 ≤ u → u ≤ b → undw S'.2 u ∨ S'.2 47 u = 3 → undw S.2 u ∨ S.2 47 u = 3 := fun u u1 u2 hu => by
    rcases hu with hu | hu
    · exact Or.inl ((st u u1 u2).1 hu)
    · exact (st u u1 u2).2 hu
  have mdj : ∀ j, nr ≤ j → j ≤ nr' → md S'.2 j = md S.2 nr := fun j => by
    induction j with
    | zero => intro h1 _; rw [show nr = 0 by omega]; rfl
    | succ j ih =>
      intro h1 h2
      by_cases c : nr = j + 1
      · rw [← c]; exact md_cg rw' (Nat.le_refl _)
      · unfold md
        rw [y_cw_s, Nat.zero_add, if_neg (new j (by omega) (by omega)).2, Nat.add_zero]
        exact ih (by omega) (by omega)
  refine ⟨hr, by rw [mdj nr' hle (Nat.le_refl _)]; exact g2, ?_, ha.trans g4, g5, fun j hj => ?_, fun u u1 u2 hu => ?_, fun u u1 u2 hu => ?_, fun u u' u1 u2 u3 u4 hu1 hu2 hne p hp q hq => ?_, ?_⟩
  · unfold R_ob at g3 ⊢; rw [es, ed, ep]; exact g3
  · by_cases c : j < nr
    · obtain ⟨r1, r2, r3, r4, r5, r6, r7, r8⟩ := rw' j c
      exact (g6 j c).cg r1 r2 r3 r4 r5 r6 r7 (md_cg rw' (by omega)) (fun q _ => by rw [es]) (fun q _ => by rw [ep]) (fun q _ => by rw [ev])
    · exact (new j (by omega) hj).1
  · rw [ec u u1 u2 hu]
    exact (g7 u u1 u2 (us u u1 u2 hu)).cg ace rw' hle (Nat.le_refl _) (ml u u1 u2 hu).1 (ml u u1 u2 hu).2
  · rw [ec u u1 u2 (Or.inl hu)]
    exact (g8 u u1 u2 ((st u u1 u2).1 hu)).cg ace es (fun o _ => Or.inl (by rw [ez])) (fun o _ q _ => Or.inl (by rw [et]))
  · rw [ec u u1 u2 (Or.inl hu1)] at hp
    rw [ec u' u3 u4 (Or.inl hu2)] at hq
    have := g9 u u' u1 u2 u3 u4 ((st u u1 u2).1 hu1) ((st u' u3 u4).1 hu2) hne p hp q hq
    unfold xc at this ⊢
    rw [ace.2.1, ace.2.2.1, ace.2.2.2.1]
    exact this
  · unfold w_sz at g10 ⊢; rw [ez]; exact g10
theorem row_no {j : Nat} (h0 : ¬ A 17 j = 0) (h2 : ¬ A 17 j = 2) (h4 : ¬ A 17 j = 4) : I_row b A j := ⟨fun z => absurd z h0, fun z => absurd z h2, fun z => absurd z h4⟩
theorem cw_cg {nr' : Nat} {w : Int32} (rw' : rw_eq nr A A') (new : ∀ j, nr ≤ j → j < nr' → ¬ A' 17 j = w) : ∀ j, nr ≤ j → j ≤ nr' → y_cw (A' 17) w 0 j = y_cw (A 17) w 0 nr := fun j => by
  induction j with
  | zero => intro h1 _; rw [show nr = 0 by omega]; rfl
  | succ j ih =>
    intro h1 h2
    by_cases c : nr = j + 1
    · rw [← c]; exact y_cw_cg nr 0 (fun q _ h => (rw' q (by omega)).1)
    · rw [y_cw_s, Nat.zero_add, if_neg (new j (by omega) (by omega)), Nat.add_zero]
      exact ih (by omega) (by omega)
/-- ends under steps that end nothing -/
theorem I_en.cg {nr' : Nat} (h : I_en b ne nr ch S) (hle : nr ≤ nr') (rw' : rw_eq nr S.2 S'.2) (new : ∀ j, nr ≤ j → j < nr' → ¬ S'.2 17 j = 4) (eE : S'.1 60 = S.1 60) (eo : S'.2 61 = S.2 61) (er : S'.2 59 = S.2 59) (ea : S'.2 42 = S.2 42) (ec : ∀ t, 1 ≤ t → t ≤ b → S'.2 47 t = 3 → ch' t = ch t)
    (en : ∀ t, 1 ≤ t → t ≤ b → S'.2 58 t = S.2 58 t) (st : ∀ t, 1 ≤ t → t ≤ b → (S'.2 47 t = 3 ↔ S.2 47 t = 3)) : I_en b ne nr' ch' S' := by
  obtain ⟨g1, g2, g3, g4, g5, g6, g7⟩ := h
  have cw0 : ∀ j, j ≤ nr → y_cw (S'.2 17) 4 0 j = y_cw (S.2 17) 4 0 j := fun j hj => y_cw_cg j 0 (fun q _ h => (rw' q (by omega)).1)
  refine ⟨eE.trans g1, g2, (cw_cg rw' new nr' hle (Nat.le_refl _)).trans g3, fun e he => ?_, fun u u1 u2 hu => ?_, fun ρ hρ hw => ?_, fun u u1 u2 hu => ?_⟩
  · obtain ⟨u, ρ, a1, a2, a3, a4, a5, a6, a7, a8, a9, b1, b2⟩ := g4 e he
    obtain ⟨r1, r2, _⟩ := rw' ρ a7
    have s3 := (st u a2 a3).mpr a4
    refine ⟨u, ρ, by rw [eo]; exact a1, a2, a3, s3, by rw [en u a2 a3]; exact a5, by rw [er]; exact a6, by omega, by rw [r1]; exact a8, by rw [r2]; exact a9, (cw0 ρ (by omega)).trans b1, fun j hj => ?_⟩
    rw [ec u a2 a3 s3] at hj
    unfold ar; rw [ea]; exact b2 j hj
  · rw [eo]; exact g5 u u1 u2 ((st u u1 u2).mp hu)
  · by_cases c : ρ < nr
    · obtain ⟨r1, r2, _⟩ := rw' ρ c
      rw [r1] at hw
      rw [eo, r2, cw0 ρ (by omega)]
      exact g6 ρ c hw
    · exact absurd hw (new ρ (by omega) hρ)
  · rw [en u u1 u2]; exact g7 u u1 u2 (fun z => hu ((st u u1 u2).mpr z))
theorem I_ve.cg (h : I_ve n ne S) (e1 : S'.2 97 = S.2 97) (e2 : S'.2 98 = S.2 98) (e3 : S'.2 99 = S.2 99) (e4 : S'.2 4 = S.2 4) (e5 : S'.2 6 = S.2 6) : I_ve n ne S' := by
  unfold I_ve at h ⊢; rw [e1, e2, e3, e4, e5]; exact h
theorem I_mi.cg {nr' : Nat} (h : I_mi n nr S) (hle : nr ≤ nr') (eF : ∀ f ∈ [3, 32, 29, 30, 14, 1, 93, 16, 63], S'.1 f = S.1 f) (e1 : S'.2 101 = S.2 101) : I_mi n nr' S' := by
  obtain ⟨a1, a2, a3, a4, ⟨f, hf, ef⟩, a6, a7, a8, a9⟩ := h
  refine ⟨(eF _ (by decide)).trans a1, (eF _ (by decide)).trans a2, (eF _ (by decide)).trans a3, by rw [eF _ (by decide)]; exact a4, ⟨f, by omega, (eF _ (by decide)).trans ef⟩, by rw [eF _ (by decide)]; exact a6, by rw [e1]; exact a7, by rw [eF _ (by decide)]; exact a8, by rw [eF 16 (by decide), eF 63 (by decide)]; exact a9⟩
end RQ
