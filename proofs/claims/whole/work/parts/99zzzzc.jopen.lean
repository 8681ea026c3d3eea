/-! a list opened: its object and its array; closed again -/
section JC
variable {g : e_G} {M : j_M} {Ψ : e_Q} {h h2 h' : e_Hp} {a b cap : Nat} {xs : List Nat}
theorem q_s {c : e_Cl} : (e_wr h a c).1 a = some c := if_pos rfl
theorem q_n {c : e_Cl} (n : b ≠ a) : (e_wr h a c).1 b = h.1 b := if_neg n
theorem q_as {c : e_Cl} {k : Nat} : (e_al h c k).1 h.2.1 = some c := if_pos rfl
theorem q_an {c : e_Cl} {k : Nat} (n : b ≠ h.2.1) : (e_al h c k).1 b = h.1 b := if_neg n
def j_lt (h : e_Hp) : Prop := ∀ (c : Nat) (d : e_Cl), h.1 c = some d → c < h.2.1
theorem e_rep.lt {H : Heap} (hr : e_rep g h H) : j_lt h := fun c d hc => by
  obtain ⟨h0, ar, h1, -⟩ := hr
  rw [← h0]
  exact (h1 c d hc).2.lt
def j_V (z : Int32) (b n : Nat) : Nat → Value := vp_V [.int z, .ref b, .int (nI n)]
def j_oh (h : e_Hp) (a : Nat) (xs : List Nat) (cap : Nat) (z : Int32) (b : Nat) : e_Hp :=
  (if cap = 0 then (e_wr h a (e_O 0 (j_V z b xs.length))).1 else va_up (e_wr h a (e_O 0 (j_V z b xs.length))).1 b (some (e_R 4 cap (fun j => xs[j]?))), h.2)
/-- what is known of an opened list -/
def j_B (g : e_G) (h : e_Hp) (a : Nat) (xs : List Nat) (cap b : Nat) : Prop := xs.length ≤ cap ∧ j_lt h ∧ ((cap = 0 ∧ b = g.2.2.2.2 0) ∨ (cap ≠ 0 ∧ h.1 b = none ∧ b < h.2.1 ∧ b ≠ a))
theorem j_oh_a {z : Int32} (hB : j_B g h a xs cap b) : (j_oh h a xs cap z b).1 a = some (e_O 0 (j_V z b xs.length)) := by
  unfold j_oh
  rcases hB.2.2 with ⟨c, -⟩ | ⟨c, -, -, n⟩
  · rw [if_pos c]; exact q_s
  · rw [if_neg c]; exact (up_n (Ne.symm n)).trans q_s
theorem j_oh_b {z : Int32} (hB : j_B g h a xs cap b) (c : cap ≠ 0) : (j_oh h a xs cap z b).1 b = some (e_R 4 cap (fun j => xs[j]?)) := by
  unfold j_oh
  rw [if_neg c]
  exact up_s
theorem j_oh_o {z : Int32} {c : Nat} {d : e_Cl} (hB : j_B g h a xs cap b) (hc : c ≠ a) (e : h.1 c = some d) : (j_oh h a xs cap z b).1 c = some d := by
  unfold j_oh
  rcases hB.2.2 with ⟨c0, -⟩ | ⟨c0, n, -, -⟩
  · rw [if_pos c0, q_n hc]; exact e
  · rw [if_neg c0]; exact (up_n (fun z => by rw [z, n] at e; cases e)).trans ((q_n hc).trans e)
theorem j_oh_n {z : Int32} {c : Nat} (hc : c ≠ a) (hb : cap = 0 ∨ c ≠ b) : (j_oh h a xs cap z b).1 c = h.1 c := by
  unfold j_oh
  by_cases c0 : cap = 0
  · rw [if_pos c0, q_n hc]
  · rw [if_neg c0]; exact (up_n (hb.resolve_left c0)).trans (q_n hc)
theorem j_oh_lt {z : Int32} (hB : j_B g h a xs cap b) (ha : ∃ d, h.1 a = some d) : j_lt (j_oh h a xs cap z b) := fun c d hc => by
  show c < h.2.1
  by_cases e : c = a
  · obtain ⟨d', h'⟩ := ha
    rw [e]; exact hB.2.1 _ _ h'
  by_cases e2 : cap = 0 ∨ c ≠ b
  · rw [j_oh_n e e2] at hc
    exact hB.2.1 _ _ hc
  · rcases hB.2.2 with ⟨c0, -⟩ | ⟨c0, -, n, -⟩
    · exact absurd (Or.inl c0) e2
    · have : c = b := Classical.byContradiction fun q => e2 (Or.inr q)
      rw [this]; exact n
theorem j_open {H : Heap} (hr : e_rep g h H) (ha : h.1 a = some (e_L xs cap)) : ∃ (z : Int32) (b : Nat), j_B g h a xs cap b ∧ e_rep g (j_oh h a xs cap z b) H := by
  have hlt := hr.lt
  obtain ⟨h0, ar, h1, h2⟩ := hr
  obtain ⟨hBa, z, q1, q2, q3⟩ := h1 a _ ha
  have q1 : t_OB a (g.2.2.1.1 0) 3 (g.2.2.1.2 0) H (vp_V [.int z, .ref (if cap = 0 then g.2.2.2.2 0 else ar a), .int (nI xs.length)]) := q1
  have q2 : xs.length ≤ cap := q2
  have q3 : cap = 0 ∨ H[ar a]? = some (arrV (g.2.2.2.1 4) cap (fun j => va_rf xs[j]?)) := q3
  by_cases c : cap = 0
  · rw [if_pos c] at q1
    have hB : j_B g h a xs cap (g.2.2.2.2 0) := ⟨q2, hlt, Or.inl ⟨c, rfl⟩⟩
    refine ⟨z, g.2.2.2.2 0, hB, h0, ar, fun k d hk => ?_, fun k ys cp hk hcp => ?_⟩
    · by_cases e : k = a
      · subst e
        rw [j_oh_a hB] at hk
        cases hk
        exact ⟨hBa, _, rfl, q1⟩
      · rw [j_oh_n e (Or.inl c)] at hk
        exact h1 k d hk
    · have e : k ≠ a := fun e => by
        subst e; rw [j_oh_a hB] at hk; cases hk
      rw [j_oh_n e (Or.inl c)] at hk
      obtain ⟨x1, x2, x3⟩ := h2 k ys cp hk hcp
      have e2 : ar k ≠ a := fun e => by rw [e, ha] at x2; cases x2
      refine ⟨x1, by rw [j_oh_n e2 (Or.inl c)]; exact x2, fun k' ys' cp' hk' hcp' he => ?_⟩
      have e3 : k' ≠ a := fun e => by
        subst e; rw [j_oh_a hB] at hk'; cases hk'
      rw [j_oh_n e3 (Or.inl c)] at hk'
      exact x3 k' ys' cp' hk' hcp' he
  · rw [if_neg c] at q1
    have q3 := q3.resolve_left c
    obtain ⟨y1, y2, y3⟩ := h2 a xs cap ha c
    have hne : ar a ≠ a := fun e => by rw [e, ha] at y2; cases y2
    have hB : j_B g h a xs cap (ar a) := ⟨q2, hlt, Or.inr ⟨c, y2, by rw [← h0]; exact (Array.getElem?_eq_some_iff.mp q3).1, hne⟩⟩
    refine ⟨z, ar a, hB, h0, ar, fun k d hk => ?_, fun k ys cp hk hcp => ?_⟩
    · by_cases e : k = a
      · subst e
        rw [j_oh_a hB] at hk
        cases hk
        exact ⟨hBa, _, rfl, q1⟩
      · by_cases e2 : k = ar a
        · rw [e2, j_oh_b hB c] at hk
          cases hk
          rw [e2]
          exact ⟨y1, q3⟩
        · rw [j_oh_n e (Or.inr e2)] at hk
          exact h1 k d hk
    · have e : k ≠ a := fun e => by
        subst e; rw [j_oh_a hB] at hk; cases hk
      have e1 : k ≠ ar a := fun e => by
        rw [e, j_oh_b hB c] at hk; cases hk
      rw [j_oh_n e (Or.inr e1)] at hk
      obtain ⟨x1, x2, x3⟩ := h2 k ys cp hk hcp
      have e2 : ar k ≠ a := fun e => by rw [e, ha] at x2; cases x2
      have e4 : ar k ≠ ar a := fun e => absurd (y3 k ys cp hk hcp e) (by assumption)
      refine ⟨x1, by rw [j_oh_n e2 (Or.inr e4)]; exact x2, fun k' ys' cp' hk' hcp' he => ?_⟩
      have e3 : k' ≠ a := fun e => by
        subst e; rw [j_oh_a hB] at hk'; cases hk'
      have e5 : k' ≠ ar a := fun e => by
        rw [e, j_oh_b hB c] at hk'; cases hk'
      rw [j_oh_n e3 (Or.inr e5)] at hk'
      exact x3 k' ys' cp' hk' hcp' he
theorem arrV_cg {cI : ClassId} {N : Nat} {f f2 : Nat → Value} (e : ∀ j, j < N → f j = f2 j) : arrV cI N f = arrV cI N f2 := by
  unfold arrV
  congr 1
  exact congrArg Array.ofFn (funext fun j => e j.val j.isLt)
theorem j_close {H : Heap} {V : Nat → Value} {z : Int32} {f : Nat → Option Nat} (hr : e_rep g h2 H) (e2 : h'.2 = h2.2) (ha : h2.1 a = some (e_O 0 V)) (v0 : V 0 = .int z) (v1 : V 1 = .ref b) (v2 : V 2 = .int (nI xs.length)) (hl : xs.length ≤ cap)
    (hb : (cap = 0 ∧ b = g.2.2.2.2 0) ∨ (cap ≠ 0 ∧ h2.1 b = some (e_R 4 cap f) ∧ h'.1 b = none ∧ ∀ j, j < cap → f j = xs[j]?)) (ha' : h'.1 a = some (e_L xs cap)) (ho : ∀ c d, c ≠ a → h'.1 c = some d → h2.1 c = some d) : e_rep g h' H := by
  obtain ⟨h0, ar, h1, hs⟩ := hr
  obtain ⟨hBa, C, hC, hO⟩ := h1 a _ ha
  cases hC
  have hO : t_OB a (g.2.2.1.1 0) 3 (g.2.2.1.2 0) H V := hO
  refine ⟨by rw [e2]; exact h0, va_up ar a b, fun k d hk => ?_, fun k ys cp hk hcp => ?_⟩
  · by_cases e : k = a
    · subst e
      rw [ha'] at hk
      cases hk
      refine ⟨hBa, z, ?_, hl, ?_⟩
      · refine hO.to (fun j hj => ?_)
        have e3 : (if cap = 0 then g.2.2.2.2 0 else va_up ar k b k) = b := by
          rcases hb with ⟨c, e⟩ | ⟨c, -⟩
          · rw [if_pos c, e]
          · rw [if_neg c]; exact up_s
        match j, hj with
        | 0, _ => exact v0
        | 1, _ => show V 1 = .ref (if cap = 0 then g.2.2.2.2 0 else va_up ar k b k); rw [e3]; exact v1
        | 2, _ => exact v2
      · show cap = 0 ∨ H[va_up ar k b k]? = some (arrV (g.2.2.2.1 4) cap (fun j => va_rf xs[j]?))
        rcases hb with ⟨c, e⟩ | ⟨c, hb1, -, hf⟩
        · exact Or.inl c
        · refine Or.inr ?_
          rw [up_s]
          have := (h1 b _ hb1).2
          have this : H[b]? = some (arrV (g.2.2.2.1 4) cap (fun j => va_rf (f j))) := this
          rw [this, arrV_cg (fun j hj => by rw [hf j hj])]
    · have hk2 := ho k d e hk
      obtain ⟨x1, x2⟩ := h1 k d hk2
      exact ⟨x1, x2.ar (fun _ _ _ _ => up_n e)⟩
  · by_cases e : k = a
    · subst e
      rw [ha'] at hk
      cases hk
      obtain ⟨c, hb1, hb2, hf⟩ := hb.resolve_left (fun z => hcp z.1)
      rw [up_s]
      refine ⟨(h1 b _ hb1).1, hb2, fun k' ys' cp' hk' hcp' he => ?_⟩
      refine Classical.byContradiction fun e' => ?_
      rw [up_n e'] at he
      have := (hs k' ys' cp' (ho k' _ e' hk') hcp').2.1
      rw [he, hb1] at this
      cases this
    · obtain ⟨x1, x2, x3⟩ := hs k ys cp (ho k _ e hk) hcp
      rw [up_n e]
      have e3 : ar k ≠ a := fun z => by rw [z, ha] at x2; cases x2
      refine ⟨x1, ?_, fun k' ys' cp' hk' hcp' he => ?_⟩
      · cases hq : h'.1 (ar k) with
        | none => rfl
        | some d =>
          have := ho (ar k) d e3 hq
          rw [x2] at this
          cases this
      · by_cases e' : k' = a
        · subst e'
          rw [ha'] at hk'
          cases hk'
          rw [up_s] at he
          obtain ⟨c, hb1, -, -⟩ := hb.resolve_left (fun z => hcp' z.1)
          rw [← he, hb1] at x2
          cases x2
        · rw [up_n e'] at he
          exact x3 k' ys' cp' (ho k' _ e' hk') hcp' he
/-- a call on a list, by what it does to the opened one -/
theorem j_Met {av : List Value} (hL : h.1 a = some (e_L xs cap)) (r : Option Value) (h' : e_Hp) (hΨ : Ψ r h') (n1 : h.2.1 ≤ h'.2.1) (n2 : h.2.2 ≤ h'.2.2)
    (key : ∀ z b, j_B g h a xs cap b → j_Sc g M av (j_oh h a xs cap z b) (fun r1 h1 => r1 = r ∧ h1.2 = h'.2 ∧ ∀ H, e_rep g h1 H → e_rep g h' H)) : j_Sc g M av h Ψ := by
  refine ⟨r, h', hΨ, n1, n2, ?_⟩
  intro p e i1 i2 i3 s m args below hf hap hP hK
  obtain ⟨hav, ⟨hal, hb, hr⟩, hnw⟩ := hP
  obtain ⟨z, b, hB, hr'⟩ := j_open hr hL
  obtain ⟨r1, h1', ⟨er, e2, cl⟩, m1, m2, hM⟩ := key z b hB
  subst er
  have e3 : (j_oh h a xs cap z b).2 = h.2 := rfl
  rw [e2, e3] at hM
  obtain ⟨n, o, w1, w2, w3, ⟨ho, hal', hb', hr1⟩, L⟩ := hM p e i1 i2 i3 s m args below hf hap ⟨hav, ⟨hal, hb, hr'⟩, hnw⟩ hK
  exact ⟨n, o, w1, w2, w3, ⟨ho, hal', hb', cl _ hr1⟩, L⟩
end JC
