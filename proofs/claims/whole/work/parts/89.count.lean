/-! how many locks there can be -/
section RR
variable {S : m_S} {A : m_A} {n b l nl nw nr na ne t cur c T : Nat} {ch : Nat → List Nat}
theorem nodup_len : ∀ (m : Nat) (l : List Nat), l.Nodup → (∀ x ∈ l, x < m) → l.length ≤ m
  | 0, l, _, h => by
    cases l with
    | nil => exact Nat.le_refl _
    | cons x r => exact absurd (h x List.mem_cons_self) (by omega)
  | m + 1, l, nd, h => by
    have h1 := nodup_len m (l.filter (fun x => decide (x ≠ m))) (nd.filter _) (fun x hx => by
      obtain ⟨a, b⟩ := List.mem_filter.mp hx
      have := h x a
      simp only [decide_eq_true_eq] at b
      omega)
    have h2 : l.length ≤ (l.filter (fun x => decide (x ≠ m))).length + 1 := by
      clear h h1
      induction l with
      | nil => simp
      | cons x r ih =>
        rw [List.nodup_cons] at nd
        by_cases c : x = m
        · subst c
          have e : r.filter (fun y => decide (y ≠ x)) = r := List.filter_eq_self.mpr (fun y hy => by
            simp only [decide_eq_true_eq]
            exact fun z => nd.1 (z ▸ hy))
          rw [List.filter_cons_of_neg (by simp), e]
          simp
        · rw [List.filter_cons_of_pos (by simp [c])]
          have := ih nd.2
          simp only [List.length_cons]
          omega
    omega
theorem sum_le {α : Type} {f g : α → Nat} : ∀ {l : List α}, (∀ t ∈ l, f t ≤ g t) → (l.map f).sum ≤ (l.map g).sum
  | [], _ => Nat.le_refl _
  | t :: l, h => by
    have := sum_le (fun u hu => h u (List.mem_cons_of_mem _ hu))
    have h0 := h t List.mem_cons_self
    simp only [List.map_cons, List.sum_cons]
    omega
theorem sum_lt {α : Type} {f g : α → Nat} : ∀ {l : List α}, (∀ t ∈ l, f t ≤ g t) → (∃ t ∈ l, f t + 1 ≤ g t) → (l.map f).sum + 1 ≤ (l.map g).sum
  | [], _, h => by obtain ⟨t, ht, _⟩ := h; cases ht
  | t :: l, h, h2 => by
    have h0 := h t List.mem_cons_self
    simp only [List.map_cons, List.sum_cons]
    obtain ⟨u, hu, e⟩ := h2
    rcases List.mem_cons.mp hu with rfl | hu
    · have := sum_le (l := l) (fun v hv => h v (List.mem_cons_of_mem _ hv))
      omega
    · have := sum_lt (fun v hv => h v (List.mem_cons_of_mem _ hv)) ⟨u, hu, e⟩
      omega
theorem sum_c {α : Type} {k : Nat} : ∀ {l : List α}, (l.map (fun _ => k)).sum = k * l.length
  | [] => rfl
  | t :: l => by simp only [List.map_cons, List.sum_cons, List.length_cons, sum_c, Nat.mul_succ]; omega
theorem sum_add {α : Type} {f g : α → Nat} : ∀ {l : List α}, (l.map (fun t => f t + g t)).sum = (l.map f).sum + (l.map g).sum
  | [] => rfl
  | t :: l => by simp only [List.map_cons, List.sum_cons, sum_add]; omega
theorem cnt_le {lv : List Nat} : ∀ (L : List v_LT), (∀ x ∈ L, ∃ t ∈ lv, x.1 = nI t) → L.length ≤ (lv.map (fun t => (L.filter (fun x => decide (x.1 = nI t))).length)).sum
  | [], _ => Nat.zero_le _
  | x :: L, h => by
    have ih := cnt_le L (fun y hy => h y (List.mem_cons_of_mem _ hy))
    obtain ⟨t, ht, e⟩ := h x List.mem_cons_self
    have := sum_lt (l := lv) (f := fun t => (L.filter (fun x => decide (x.1 = nI t))).length) (g := fun t => ((x :: L).filter (fun x => decide (x.1 = nI t))).length) (fun u _ => by
      by_cases c : x.1 = nI u
      · rw [List.filter_cons_of_pos (by simp [c])]; simp
      · rw [List.filter_cons_of_neg (by simp [c])]; exact Nat.le_refl _) ⟨t, ht, by rw [List.filter_cons_of_pos (by simp [e])]; simp⟩
    simp only [List.length_cons]
    omega
def isP (x : v_LT) : Bool := decide (x.2.2.1 = 0) || decide (x.2.2.1 = 1)
theorem split_P {t : Nat} : ∀ (L : List v_LT), (L.filter (fun x => decide (x.1 = nI t))).length = (L.filter (fun x => decide (x.1 = nI t) && isP x)).length + (L.filter (fun x => decide (x.1 = nI t) && !isP x)).length
  | [] => rfl
  | x :: L => by
    have ih := split_P (t := t) L
    by_cases c : x.1 = nI t
    · cases hp : isP x
      · rw [List.filter_cons_of_pos (by simp [c]), List.filter_cons_of_neg (by simp [hp]), List.filter_cons_of_pos (by simp [c, hp])]
        simp only [List.length_cons]; omega
      · rw [List.filter_cons_of_pos (by simp [c]), List.filter_cons_of_pos (by simp [c, hp]), List.filter_cons_of_neg (by simp [hp])]
        simp only [List.length_cons]; omega
    · rw [List.filter_cons_of_neg (by simp [c]), List.filter_cons_of_neg (by simp [c]), List.filter_cons_of_neg (by simp [c])]
      exact ih
/-- paths: one of each kind on each object -/
theorem path_le {L : List v_LT} {m : Nat} (f : v_LT → Nat) (hL : L.Pairwise (fun x y => ¬ eqL x y)) (hf : ∀ x ∈ L, isP x = true → f x < m) (hi : ∀ x ∈ L, ∀ y ∈ L, x.1 = nI t → y.1 = nI t → isP x = true → isP y = true → f x = f y → eqL x y) : (L.filter (fun x => decide (x.1 = nI t) && isP x)).length ≤ m := by
  have h1 : ((L.filter (fun x => decide (x.1 = nI t) && isP x)).map f).Nodup := by
    unfold List.Nodup
    rw [List.pairwise_map]
    refine (hL.filter (fun x => decide (x.1 = nI t) && isP x)).imp_of_mem (fun {x y} hx hy hn e => ?_)
    obtain ⟨x1, x2⟩ := List.mem_filter.mp hx
    obtain ⟨y1, y2⟩ := List.mem_filter.mp hy
    simp only [Bool.and_eq_true, decide_eq_true_eq] at x2 y2
    exact hn (hi x x1 y y1 x2.1 y2.1 x2.2 y2.2 e)
  have h2 := nodup_len m _ h1 (fun z hz => by
    obtain ⟨x, hx, e⟩ := List.mem_map.mp hz
    obtain ⟨x1, x2⟩ := List.mem_filter.mp hx
    simp only [Bool.and_eq_true] at x2
    rw [← e]; exact hf x x1 x2.2)
  rw [List.length_map] at h2
  exact h2
theorem isP_w {x : v_LT} (h : isP x = true) : x.2.2.1 = 0 ∨ x.2.2.1 = 1 := by
  unfold isP at h
  simp only [Bool.or_eq_true, decide_eq_true_eq] at h
  exact h
theorem mem_vL {k : Nat} (h : k < nl) : v_k A k ∈ v_L nl A := List.mem_map.mpr ⟨k, List.mem_range.mpr h, rfl⟩
theorem mem_vW {k : Nat} (h : k < nw) : v_w A k ∈ v_W nw A := List.mem_map.mpr ⟨k, List.mem_range.mpr h, rfl⟩
/-- locks for acts on one object: one of each kind -/
theorem act_le {G : List v_3} : ∀ (L : List v_LT), L.Pairwise (fun x y => ¬ eqL x y) → (∀ x ∈ L, n3 x.2.2.1 x.2.2.2.1 x.2.2.2.2.1 ∈ G) → (∀ x ∈ L, ∀ y ∈ L, n3 x.2.2.1 x.2.2.2.1 x.2.2.2.2.1 = n3 y.2.2.1 y.2.2.2.1 y.2.2.2.2.1 → eqL x y) → L.length ≤ G.length := by
  have key : ∀ (m : Nat) (l G : List v_3), l.length = m → l.Nodup → (∀ x ∈ l, x ∈ G) → l.length ≤ G.length := by
    intro m
    induction m with
    | zero => intro l G e _ _; omega
    | succ m ih =>
      intro l G e nd h
      cases l with
      | nil => cases e
      | cons x r =>
        rw [List.nodup_cons] at nd
        have h2 := ih r (G.erase x) (by simpa using e) nd.2 (fun y hy => by
          have hne : y ≠ x := fun z => nd.1 (z ▸ hy)
          exact (List.mem_erase_of_ne hne).mpr (h y (List.mem_cons_of_mem _ hy)))
        rw [List.length_erase_of_mem (h x List.mem_cons_self)] at h2
        have : 0 < G.length := List.length_pos_of_mem (h x List.mem_cons_self)
        simp only [List.length_cons]
        omega
  intro L hp hm hi
  have nd : (L.map (fun x => n3 x.2.2.1 x.2.2.2.1 x.2.2.2.2.1)).Nodup := by
    unfold List.Nodup
    rw [List.pairwise_map]
    exact hp.imp_of_mem (fun {x y} hx hy hn e => hn (hi x hx y hy e))
  have := key _ _ G rfl nd (fun z hz => by
    obtain ⟨x, hx, e⟩ := List.mem_map.mp hz
    rw [← e]; exact hm x hx)
  rw [List.length_map] at this
  exact this
theorem n3_eq {w k a w2 k2 a2 : Int32} (h : n3 w k a = n3 w2 k2 a2) : w = w2 ∧ (w = 4 → k = k2 ∧ a = a2) := by
  unfold n3 at h
  have h1 := congrArg (fun z : v_3 => z.1) h
  have h2 := congrArg (fun z : v_3 => z.2.1) h
  have h3 := congrArg (fun z : v_3 => z.2.2) h
  dsimp only at h1 h2 h3
  refine ⟨h1, fun e => ?_⟩
  rw [if_pos e, if_pos (h1 ▸ e)] at h2 h3
  exact ⟨h2, h3⟩
theorem nl_le (hD : I_de b l cur S) (hK : I_lk n b nl nw cur ch S) (hn : n ≤ 40) (hP : I_po c T l nr na cur nw S) : nl ≤ 4544 ∧ ∀ o, (v_LO (nI o) (v_L nl S.2)).length ≤ 1048 := by
  obtain ⟨d1, d2, d3, d4, d5, d6, d7, d8, d9, d10, d11⟩ := hD
  obtain ⟨k1, k2, k3, k4, k5, k6, k7, k8, k9, k10, k11, ⟨_, G, k13⟩, k12⟩ := hK
  obtain ⟨p1, p2, p3, p4, p5, p6, p7⟩ := hP
  have own : ∀ x ∈ v_L nl S.2, ∃ t ∈ v_lv l S.2, x.1 = nI t := fun x hx => by
    obtain ⟨t, o, v, a1, a2, a3, a4, _⟩ := k5 x hx
    exact ⟨t, (d9 t).mpr ⟨a2, a3, a4⟩, a1⟩
  have xle : ∀ t ∈ v_lv l S.2, ((v_L nl S.2).filter (fun x => decide (x.1 = nI t) && !isP x)).length ≤ 7 * (S.2 55 t).toNatClampNeg := fun t ht => by
    obtain ⟨a1, a2, a3⟩ := (d9 t).mp ht
    have := k11 t a1 a2 a3
    unfold xl at this
    unfold isP
    omega
  have sm : ∀ m : Nat, ((v_lv l S.2).map (fun t => m * (S.2 55 t).toNatClampNeg)).sum = m * ((v_lv l S.2).map (fun t => (S.2 55 t).toNatClampNeg)).sum := fun m => by
    generalize v_lv l S.2 = L
    induction L with
    | nil => simp
    | cons u L ih => simp only [List.map_cons, List.sum_cons, Nat.mul_add, ih]
  have wl : ∀ x : v_LT, isP x = true → x.2.2.1.toNatClampNeg ≤ 1 ∧ x.2.2.1 = nI x.2.2.1.toNatClampNeg ∧ ¬ x.2.2.1 = 4 := fun x h => by
    rcases isP_w h with e | e <;> rw [e] <;> decide
  refine ⟨?_, fun o => ?_⟩
  · have h1 := cnt_le _ own
    have h2 := sum_le (l := v_lv l S.2) (f := fun t => ((v_L nl S.2).filter (fun x => decide (x.1 = nI t))).length) (g := fun t => 80 + 7 * (S.2 55 t).toNatClampNeg) (fun t ht => by
      have e := split_P (t := t) (v_L nl S.2)
      have hp := path_le (t := t) (m := 80) (fun x => 2 * x.2.1.toNatClampNeg + x.2.2.1.toNatClampNeg) k10 (fun x hx hp => by
        obtain ⟨u, o, v, a1, a2, a3, a4, a5, a6, _⟩ := k5 x hx
        have := (wl x hp).1
        rw [a5, i_cl (by omega)]
        omega) (fun x hx y hy ex ey px py e => by
        obtain ⟨u, o, v, a1, a2, a3, a4, a5, a6, _⟩ := k5 x hx
        obtain ⟨u', o', v', b1, b2, b3, b4, b5, b6, _⟩ := k5 y hy
        have wx := wl x px
        have wy := wl y py
        rw [a5, b5, i_cl (by omega), i_cl (by omega)] at e
        refine ⟨ex.trans ey.symm, by rw [a5, b5, show o = o' by omega], ?_, fun z => absurd z wx.2.2⟩
        rw [wx.2.1, wy.2.1]
        congr 1
        omega)
      have := xle t ht
      omega)
    rw [sum_add, sum_c, sm, v_lvl] at h2
    rw [v_Ll] at h1
    omega
  · have h1 := cnt_le (lv := v_lv l S.2) (v_LO (nI o) (v_L nl S.2)) (fun x hx => own x (List.mem_filter.mp hx).1)
    have h2 := sum_le (l := v_lv l S.2) (f := fun t => ((v_LO (nI o) (v_L nl S.2)).filter (fun x => decide (x.1 = nI t))).length) (g := fun t => 2 + 2 * (S.2 55 t).toNatClampNeg) (fun t ht => by
      have e := split_P (t := t) (v_LO (nI o) (v_L nl S.2))
      have hp := path_le (t := t) (m := 2) (fun x => x.2.2.1.toNatClampNeg) (L := v_LO (nI o) (v_L nl S.2)) (k10.filter _) (fun x hx hp => by
        have := (wl x hp).1
        omega) (fun x hx y hy ex ey px py e => by
        have wx := wl x px
        have wy := wl y py
        have ox := (List.mem_filter.mp hx).2
        have oy := (List.mem_filter.mp hy).2
        simp only [beq_iff_eq] at ox oy
        refine ⟨ex.trans ey.symm, ox.trans oy.symm, ?_, fun z => absurd z wx.2.2⟩
        rw [wx.2.1, wy.2.1, e])
      obtain ⟨a1, a2, a3⟩ := (d9 t).mp ht
      obtain ⟨g1, g2, g3⟩ := k13 t a1 a2 a3
      have h3 : ((v_LO (nI o) (v_L nl S.2)).filter (fun x => decide (x.1 = nI t) && !isP x)).length ≤ (G t).length := by
        refine act_le _ ((k10.filter _).filter _) (fun x hx => ?_) (fun x hx y hy e => ?_)
        · obtain ⟨x1, x2⟩ := List.mem_filter.mp hx
          simp only [Bool.and_eq_true, decide_eq_true_eq, Bool.not_eq_true'] at x2
          refine g2 x (List.mem_filter.mp x1).1 x2.1 (fun z => ?_)
          have := x2.2
          unfold isP at this
          rcases z with z | z <;> rw [z] at this <;> exact absurd this (by decide)
        · obtain ⟨x1, x2⟩ := List.mem_filter.mp hx
          obtain ⟨y1, y2⟩ := List.mem_filter.mp hy
          simp only [Bool.and_eq_true, decide_eq_true_eq] at x2 y2
          have ox := (List.mem_filter.mp x1).2
          have oy := (List.mem_filter.mp y1).2
          simp only [beq_iff_eq] at ox oy
          obtain ⟨e1, e2⟩ := n3_eq e
          exact ⟨x2.1.trans y2.1.symm, ox.trans oy.symm, e1, e2⟩
      omega)
    rw [sum_add, sum_c, sm, v_lvl] at h2
    omega
end RR
