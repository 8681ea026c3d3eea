/-! the eight members of a list, as calls on a closed one -/
section JF
variable {g : e_G} {M : j_M} {Ψ : e_Q} {h : e_Hp} {a b cap : Nat} {xs : List Nat}
theorem j_post {av : List Value} (r : Option Value) (h' : e_Hp) (hΨ : Ψ r h') (n1 : h.2.1 ≤ h'.2.1) (n2 : h.2.2 ≤ h'.2.2)
    (key : j_Sc g M av h (fun r1 h1 => r1 = r ∧ h1.2 = h'.2 ∧ ∀ H, e_rep g h1 H → e_rep g h' H)) : j_Sc g M av h Ψ := by
  refine ⟨r, h', hΨ, n1, n2, ?_⟩
  intro p e i1 i2 i3 s m args below hf hap hP hK
  obtain ⟨r1, h1', ⟨er, e2, cl⟩, m1, m2, hM⟩ := key
  subst er
  rw [e2] at hM
  obtain ⟨n, o, w1, w2, w3, ⟨ho, hal', hb', hr1⟩, L⟩ := hM p e i1 i2 i3 s m args below hf hap hP hK
  exact ⟨n, o, w1, w2, w3, ⟨ho, hal', hb', cl _ hr1⟩, L⟩
theorem j_cl0 {z : Int32} {H : Heap} (hL : h.1 a = some (e_L xs cap)) (hB : j_B g h a xs cap b) (hr : e_rep g (j_oh h a xs cap z b) H) : e_rep g h H := by
  refine j_close hr rfl (j_oh_a hB) rfl rfl rfl hB.1 (f := fun j => xs[j]?) ?_ hL (fun c d hc hd => j_oh_o hB hc hd)
  rcases hB.2.2 with ⟨c, e⟩ | ⟨c, n, -, -⟩
  · exact Or.inl ⟨c, e⟩
  · exact Or.inr ⟨c, j_oh_b hB c, n, fun _ _ => rfl⟩
theorem e_gr_1 {ys : List Nat} {n : Nat} : e_gr h a ys n cap = ((e_wr h a (e_L ys (if n < cap then cap else j_cp cap))).1, if n < cap then h.2 else (h.2.1 + 1, h.2.2 + j_cp cap)) := by
  unfold e_gr j_cp
  by_cases c1 : n < cap
  · rw [if_pos c1, if_pos c1, if_pos c1]; rfl
  · rw [if_neg c1, if_neg c1, if_neg c1]
    by_cases c2 : cap = 0
    · rw [if_pos c2, if_pos c2]
    · rw [if_neg c2, if_neg c2]
theorem j_clA {z : Int32} {n : Nat} {ys : List Nat} {f4 : Nat → Option Nat} {h3 : e_Hp} (h10 : cap = 0 ∨ 10 ≤ cap) (hL : h.1 a = some (e_L xs cap)) (hB : j_B g h a xs cap b) (hy : ys.length = n + 1) (hf : ∀ j, f4 j = ys[j]?) (hp : j_adP (j_oh h a xs cap z b) a b n cap f4 h3) : h3.2 = (e_gr h a ys n cap).2 ∧ ∀ H, e_rep g h3 H → e_rep g (e_gr h a ys n cap) H := by
  rw [e_gr_1]
  obtain ⟨b3, cap3, p1, ⟨V3, z3, v1, v2, v3, v4⟩, ⟨f3, p3, p4⟩, p5⟩ := hp
  have hal : a < h.2.1 := hB.2.1 _ _ hL
  obtain ⟨e1, e2, nb, nc, nl⟩ : (if n < cap then cap else j_cp cap) = cap3 ∧ h3.2 = (if n < cap then h.2 else (h.2.1 + 1, h.2.2 + j_cp cap)) ∧ h.1 b3 = none ∧ b3 ≠ a ∧ n + 1 ≤ cap3 := by
    rcases p1 with ⟨c1, c2, c3, c4⟩ | ⟨c1, c2, c3, c4⟩
    · rw [if_pos c1, if_pos c1]
      rcases hB.2.2 with ⟨c0, -⟩ | ⟨c0, q1, q2, q3⟩
      · omega
      · exact ⟨c3.symm, c4, by rw [c2]; exact q1, by rw [c2]; exact q3, by omega⟩
    · rw [if_neg (by omega), if_neg (by omega)]
      have c2 : b3 = h.2.1 := c2
      refine ⟨c3.symm, c4, ?_, by omega, ?_⟩
      · rw [c2]
        cases hq : h.1 h.2.1 with
        | none => rfl
        | some d => exact absurd (hB.2.1 _ _ hq) (Nat.lt_irrefl _)
      · rw [c3, c1]
        unfold j_cp
        split
        · omega
        · omega
  refine ⟨e2, fun H hr => ?_⟩
  rw [e1]
  refine j_close hr e2.symm v1 v2 v3 (by rw [hy]; exact v4) (by omega) (Or.inr ⟨by omega, p3, ?_, fun j _ => by rw [p4, hf]⟩) q_s (fun c d hc hd => ?_)
  · exact (q_n nc).trans nb
  · have hd : h.1 c = some d := (q_n hc).symm.trans hd
    have : c ≠ b3 := fun e => by rw [e, nb] at hd; cases hd
    rw [p5 c hc this]
    exact j_oh_o hB hc hd
theorem j_obj {z : Int32} {v cv : Nat} {Vv : Nat → Value} (hL : h.1 a = some (e_L xs cap)) (hB : j_B g h a xs cap b) (hv : h.1 v = some (e_O cv Vv)) : (j_oh h a xs cap z b).1 v = some (e_O cv Vv) :=
  j_oh_o hB (fun e => by rw [e, hL] at hv; cases hv) hv
theorem j_els {z : Int32} (hL : h.1 a = some (e_L xs cap)) (hB : j_B g h a xs cap b) (hel : ∀ y ∈ xs, ∃ (cy : Nat) (Vy : Nat → Value), 1 ≤ cy ∧ h.1 y = some (e_O cy Vy)) (n : Nat) : j_el (j_oh h a xs cap z b) (fun j => xs[j]?) n := fun j y _ hy => by
  obtain ⟨cy, Vy, y1, y2⟩ := hel y (List.mem_of_getElem? hy)
  exact ⟨cy, Vy, y1, j_obj hL hB y2⟩
theorem j_hb {z : Int32} (hB : j_B g h a xs cap b) (h10 : cap = 0 ∨ 10 ≤ cap) : (cap = 0 ∧ b = g.2.2.2.2 0) ∨ (10 ≤ cap ∧ (j_oh h a xs cap z b).1 b = some (e_R 4 cap (fun j => xs[j]?))) := by
  rcases hB.2.2 with c | ⟨c, -⟩
  · exact Or.inl c
  · exact Or.inr ⟨h10.resolve_left c, j_oh_b hB c⟩
theorem e_gr_le {ys : List Nat} {n : Nat} : h.2.1 ≤ (e_gr h a ys n cap).2.1 ∧ h.2.2 ≤ (e_gr h a ys n cap).2.2 := by
  rw [e_gr_1]
  by_cases c : n < cap
  · simp only [if_pos c]; exact ⟨Nat.le_refl _, Nat.le_refl _⟩
  · simp only [if_neg c]; exact ⟨Nat.le_succ _, Nat.le_add_right _ _⟩
/-- a library's list does what was assumed of it -/
theorem a_AK (hg : e_GK g) (hC0 : e_GC g) : e_AK g := by
  refine ⟨?_, ?_, ?_, ?_, ?_, ?_, ?_, ?_⟩
  · intro a i x xs cap h Ψ hL hx hc q
    show j_Sc g (e_mk 248, e_fr 248, e_lo 248) [.ref a, .int (nI i)] h Ψ
    rw [je_get]
    have hi : i < xs.length := (List.getElem?_eq_some_iff.mp hx).1
    refine j_Met hL (some (.ref x)) h q (Nat.le_refl _) (Nat.le_refl _) (fun z b hB => ?_)
    have hl := hB.1
    exact v_get (cap := cap) (n := nI xs.length) (f := fun j => xs[j]?) hg (j_oh_a hB) rfl rfl (j_oh_b hB (by omega)) (nI_pos (by omega)) (nI_lt hi (by omega)) (vp_in_nI (by omega) (by omega)) (by rw [nI_clamp (by omega)]; exact hx) ⟨rfl, rfl, fun H hr => j_cl0 hL hB hr⟩
  · intro a xs cap h Ψ hL q
    show j_Sc g (e_mk 251, e_fr 251, e_lo 251) [.ref a] h Ψ
    rw [je_size]
    refine j_Met hL _ h q (Nat.le_refl _) (Nat.le_refl _) (fun z b hB => ?_)
    exact v_size hg (j_oh_a hB) rfl ⟨rfl, rfl, fun H hr => j_cl0 hL hB hr⟩
  · intro a xs cap h Ψ hL hc q
    show j_Sc g (e_mk 249, e_fr 249, e_lo 249) [.ref a] h Ψ
    rw [je_empt]
    refine j_Met hL _ h q (Nat.le_refl _) (Nat.le_refl _) (fun z b hB => ?_)
    have hl := hB.1
    refine v_empt hg (j_oh_a hB) rfl ⟨?_, rfl, fun H hr => j_cl0 hL hB hr⟩
    by_cases c : xs.length = 0
    · rw [if_pos c, c]; rfl
    · rw [if_neg c, if_neg (nI_ne0 (by omega) (by omega))]
  · intro a x c V xs cap h Ψ hL hx hc1 hel hc h10 q
    show j_Sc g (e_mk 245, e_fr 245, e_lo 245) [.ref a, .ref x] h Ψ
    rw [je_add]
    refine j_Met hL _ (e_gr h a (xs ++ [x]) xs.length cap) q e_gr_le.1 e_gr_le.2 (fun z b hB => ?_)
    have hl := hB.1
    refine v_add (cap := cap) (f := fun j => xs[j]?) (n := xs.length) hg hC0 (j_oh_lt hB ⟨_, hL⟩) (j_oh_a hB) rfl rfl rfl (j_hb hB h10) hc hl (j_els hL hB hel _) (fun j hj => List.getElem?_eq_none hj) (j_obj hL hB hx) hc1 (fun h3 hp => ⟨rfl, ?_⟩)
    refine j_clA h10 hL hB (by rw [List.length_append]; rfl) (fun j => ?_) hp
    show (if j = xs.length then some x else xs[j]?) = (xs ++ [x])[j]?
    by_cases e : j = xs.length
    · rw [if_pos e, e, List.getElem?_append_right (Nat.le_refl _), Nat.sub_self]; rfl
    · rw [if_neg e]
      by_cases e2 : j < xs.length
      · rw [List.getElem?_append_left e2]
      · rw [List.getElem?_eq_none (by omega), List.getElem?_eq_none (by rw [List.length_append]; show xs.length + 1 ≤ j; omega)]
  · intro a x c i V xs cap h Ψ hL hx hc1 hel hc h10 hi q
    show j_Sc g (e_mk 246, e_fr 246, e_lo 246) [.ref a, .int (nI i), .ref x] h Ψ
    rw [je_adda]
    refine j_Met hL _ (e_gr h a (xs.take i ++ x :: xs.drop i) xs.length cap) q e_gr_le.1 e_gr_le.2 (fun z b hB => ?_)
    have hl := hB.1
    refine v_adda (cap := cap) (f := fun j => xs[j]?) (n := xs.length) hg hC0 (j_oh_lt hB ⟨_, hL⟩) (j_oh_a hB) rfl rfl rfl (j_hb hB h10) hc hl hi (j_els hL hB hel _) (fun j hj => List.getElem?_eq_none hj) (j_obj hL hB hx) hc1 (fun h3 hp => ⟨rfl, ?_⟩)
    refine j_clA h10 hL hB (by rw [List.length_append, List.length_cons, List.length_take, List.length_drop]; omega) (fun j => ?_) hp
    show (if j < i then xs[j]? else if j = i then some x else xs[j - 1]?) = (xs.take i ++ x :: xs.drop i)[j]?
    have lt : (xs.take i).length = i := by rw [List.length_take]; omega
    by_cases e : j < i
    · rw [if_pos e, List.getElem?_append_left (by omega), List.getElem?_take_of_lt e]
    · rw [if_neg e, List.getElem?_append_right (by omega), lt]
      by_cases e2 : j = i
      · rw [if_pos e2, e2, Nat.sub_self]; rfl
      · rw [if_neg e2]
        obtain ⟨k, hk⟩ : ∃ k, j - i = k + 1 := ⟨j - i - 1, by omega⟩
        rw [hk, List.getElem?_cons_succ, List.getElem?_drop]
        congr 1; omega
  · intro a i x xs cap h Ψ hL hx hel hc q
    show j_Sc g (e_mk 250, e_fr 250, e_lo 250) [.ref a, .int (nI i)] h Ψ
    rw [je_rem]
    have hi : i < xs.length := (List.getElem?_eq_some_iff.mp hx).1
    obtain ⟨n, hn⟩ : ∃ n, xs.length = n + 1 := ⟨xs.length - 1, by omega⟩
    refine j_Met hL _ (e_wr h a (e_L (xs.eraseIdx i) cap)) q (Nat.le_refl _) (Nat.le_refl _) (fun z b hB => ?_)
    have hl := hB.1
    have c0 : cap ≠ 0 := by omega
    refine v_rem (cap := cap) (f := fun j => xs[j]?) (n := n) hg hC0 (j_oh_a hB) rfl rfl (by show Value.int (nI xs.length) = _; rw [hn]) (j_oh_b hB c0) (by omega) (by omega) hc hx (j_els hL hB hel (n + 1)) (fun h3 hp => ⟨rfl, ?_⟩)
    obtain ⟨p1, ⟨V3, z3, v1, v2, v3, v4⟩, ⟨f3, p2, p3, p4, p5, p6⟩, p7⟩ := hp
    have le : (xs.eraseIdx i).length = n := by rw [List.length_eraseIdx, if_pos hi, hn]; rfl
    refine ⟨p1, fun H hr => j_close hr p1.symm v1 v2 v3 (by rw [le]; exact v4) (by omega) (f := f3) (Or.inr ⟨c0, p2, ?_, fun j _ => ?_⟩) q_s (fun c d hc hd => ?_)⟩
    · rcases hB.2.2 with ⟨c, -⟩ | ⟨-, n1, -, n2⟩
      · exact absurd c c0
      · exact (q_n n2).trans n1
    · rw [List.getElem?_eraseIdx]
      by_cases e : j < i
      · rw [if_pos e]; exact p3 j e
      · rw [if_neg e]
        by_cases e2 : j < n
        · exact p4 j (by omega) e2
        · rw [List.getElem?_eq_none (by omega)]
          by_cases e3 : j = n
          · rw [e3]; exact p5
          · rw [p6 j (by omega)]; exact List.getElem?_eq_none (by omega)
    · have hd : h.1 c = some d := (q_n hc).symm.trans hd
      have hb : c ≠ b := fun e => by
        rcases hB.2.2 with ⟨c', -⟩ | ⟨-, n1, -, -⟩
        · exact absurd c' c0
        · rw [e, n1] at hd; cases hd
      rw [p7 c hc hb]
      exact j_oh_o hB hc hd
  · intro a xs cap h Ψ hL hc q
    show j_Sc g (e_mk 247, e_fr 247, e_lo 247) [.ref a] h Ψ
    rw [je_clr]
    refine j_Met hL _ (e_wr h a (e_L [] cap)) q (Nat.le_refl _) (Nat.le_refl _) (fun z b hB => ?_)
    have hl := hB.1
    have ho : ∀ (h3 : e_Hp), (∀ c, c ≠ a → c ≠ b ∨ cap = 0 → h3.1 c = (j_oh h a xs cap z b).1 c) → ∀ c d, c ≠ a → (e_wr h a (e_L [] cap)).1 c = some d → h3.1 c = some d := fun h3 k c d hc hd => by
      have hd : h.1 c = some d := (q_n hc).symm.trans hd
      rw [k c hc ?_]
      · exact j_oh_o hB hc hd
      · rcases hB.2.2 with ⟨c', -⟩ | ⟨-, n1, -, -⟩
        · exact Or.inr c'
        · exact Or.inl (fun e => by rw [e, n1] at hd; cases hd)
    refine v_clr (cap := cap) (f := fun j => xs[j]?) (n := xs.length) hg (j_oh_a hB) rfl rfl rfl ?_ hl hc (fun h3 p1 p2 p3 => ⟨rfl, p1, fun H hr => ?_⟩)
    · by_cases c0 : cap = 0
      · exact Or.inl (by omega)
      · exact Or.inr (j_oh_b hB c0)
    · obtain ⟨V3, z3, v1, v2, v3, v4⟩ := p2
      by_cases c0 : cap = 0
      · have eb : b = g.2.2.2.2 0 := by
          rcases hB.2.2 with ⟨-, e⟩ | ⟨c, -⟩
          · exact e
          · exact absurd c0 c
        refine j_close (xs := []) hr p1.symm v1 v2 v3 v4 (Nat.zero_le _) (f := fun _ => none) (Or.inl ⟨c0, eb⟩) q_s ?_
        rcases p3 with ⟨-, k⟩ | ⟨f3, k1, -⟩
        · exact ho h3 (fun c hc _ => k c hc)
        · exfalso
          obtain ⟨z1, t1, z2, t2, z3', t3, -⟩ := hg.2.2.2.2.2.2
          obtain ⟨cell, -, -, -, -, -, -, h7⟩ := t3
          obtain ⟨-, ar, h1, -⟩ := hr
          have := (h1 b _ k1).1
          rw [eb] at this
          exact h7 this
      · have nb : h.1 b = none ∧ b ≠ a := by
          rcases hB.2.2 with ⟨c, -⟩ | ⟨-, n1, -, n2⟩
          · exact absurd c c0
          · exact ⟨n1, n2⟩
        rcases p3 with ⟨k0, k⟩ | ⟨f3, k1, k2, k3, k4⟩
        · refine j_close (xs := []) hr p1.symm v1 v2 v3 v4 (Nat.zero_le _) (f := fun j => xs[j]?) (Or.inr ⟨c0, by rw [k b nb.2]; exact j_oh_b hB c0, (q_n nb.2).trans nb.1, fun j _ => List.getElem?_eq_none (by omega)⟩) q_s (ho h3 (fun c hc _ => k c hc))
        · refine j_close (xs := []) hr p1.symm v1 v2 v3 v4 (Nat.zero_le _) (f := f3) (Or.inr ⟨c0, k1, (q_n nb.2).trans nb.1, fun j _ => ?_⟩) q_s (ho h3 (fun c hc hcb => k4 c hc (hcb.resolve_right c0)))
          by_cases e : j < xs.length
          · exact k2 j e
          · rw [k3 j (by omega)]; exact List.getElem?_eq_none (by omega)
  · intro a h Ψ ha q
    show j_Sc g (e_mk 244, e_fr 244, e_lo 244) [.ref a] h Ψ
    rw [je_init]
    refine j_post none (e_wr h a (e_L [] 0)) q (Nat.le_refl _) (Nat.le_refl _) (v_init hg ha ⟨rfl, rfl, fun H hr => ?_⟩)
    refine j_close (z := 0) (V := va_up (va_up (e_dv 0) 0 (.int 0)) 1 (.ref (g.2.2.2.2 0))) (b := g.2.2.2.2 0) hr rfl q_s rfl rfl rfl (Nat.le_refl _) (f := fun _ => none) (Or.inl ⟨rfl, rfl⟩) q_s (fun c d hc hd => ?_)
    rw [q_n hc, q_n hc]
    exact (q_n hc).symm.trans hd
end JF
