/-! the machine does what the symbolic machine says: fields, arrays, new cells -/
def e_tys (g : e_G) : List (ClassId × FieldType) := [(g.2.2.2.1 0, .int), (g.2.2.2.1 1, .boolean), (g.2.2.2.1 2, .object "HoldHouse$Thing"), (g.2.2.2.1 3, .object "HoldHouse$Spot"), (g.2.2.2.1 4, .object "java/lang/Object")]
def e_A (g : e_G) : Nat → Prop := fun q => e_B g ≤ q
/-- statics at the start -/
def e_GS (g : e_G) : Prop := va_Z "HoldHouse" "SORTS_OF_KIND" "[I" (.ref (g.2.2.2.2 1)) (e_A g) g.2.1 g.2.1.heap ∧ va_T .int (g.2.2.2.2 1) 22 (fun j => .int ((e_stI 12 350).2 j)) (e_A g) g.2.1 g.2.1.heap ∧
  va_Z "HoldHouse" "SMALL_ONES" "[I" (.ref (g.2.2.2.2 2)) (e_A g) g.2.1 g.2.1.heap ∧ va_T .int (g.2.2.2.2 2) 8 (fun j => .int ((e_stI 12 293).2 j)) (e_A g) g.2.1 g.2.1.heap ∧
  va_Z "java/util/ArrayList" "DEFAULTCAPACITY_EMPTY_ELEMENTDATA" "[Ljava/lang/Object;" (.ref (g.2.2.2.2 0)) (e_A g) g.2.1 g.2.1.heap ∧ va_T (.object "java/lang/Object") (g.2.2.2.2 0) 0 (fun _ => .null) (e_A g) g.2.1 g.2.1.heap ∧
  (∃ mi : Nat, va_Mi "[Ljava/lang/Object;" mi g.2.1) ∧ va_Dc g.2.1
/-- what is known of the start -/
def e_GK (g : e_G) : Prop := va_K g.2.2.1 vwCl (e_tys g) g.2.1 ∧ va_AO "HoldHouse$Thing" g.2.1 ∧ va_AO "HoldHouse$Spot" g.2.1 ∧ va_AO "java/lang/Object" g.2.1 ∧ (Cond.arrayClass .int).before #[] g.2.1 = true ∧ (Cond.arrayClass .boolean).before #[] g.2.1 = true ∧ e_GS g
theorem e_at.kept {g : e_G} {ar : Nat → Nat} {a : Nat} {c : e_Cl} {H H' : Heap} (h : e_at g ar a c H) (h1 : H'[a]? = H[a]?) (h2 : ∀ xs cap, c = e_L xs cap → cap ≠ 0 → H'[ar a]? = H[ar a]?) : e_at g ar a c H' := by
  match c, h, h2 with
  | .inl o, h, _ => obtain ⟨r, q1, q2⟩ := h; exact ⟨r, q1, q2.kept h1⟩
  | .inr (.inl x), h, _ => exact h1.trans h
  | .inr (.inr (.inl x)), h, _ => exact h1.trans h
  | .inr (.inr (.inr x)), h, h2 =>
    obtain ⟨z, q1, q2, q3⟩ := h
    refine ⟨z, q1.kept h1, q2, ?_⟩
    rcases q3 with q | q
    · exact Or.inl q
    · by_cases hz : x.2 = 0
      · exact Or.inl hz
      · exact Or.inr ((h2 x.1 x.2 rfl hz).trans q)
theorem e_at.ar {g : e_G} {ar ar' : Nat → Nat} {a : Nat} {c : e_Cl} {H : Heap} (h : e_at g ar a c H) (h2 : ∀ xs cap, c = e_L xs cap → cap ≠ 0 → ar' a = ar a) : e_at g ar' a c H := by
  match c, h, h2 with
  | .inl o, h, _ => exact h
  | .inr (.inl x), h, _ => exact h
  | .inr (.inr (.inl x)), h, _ => exact h
  | .inr (.inr (.inr x)), h, h2 =>
    obtain ⟨z, q1, q2, q3⟩ := h
    by_cases hz : x.2 = 0
    · refine ⟨z, ?_, q2, Or.inl hz⟩
      simp only [if_pos hz] at q1 ⊢
      exact q1
    · have e := h2 x.1 x.2 rfl hz
      refine ⟨z, ?_, q2, ?_⟩
      · rw [e]; exact q1
      · rw [e]; exact q3
theorem e_at.lt {g : e_G} {ar : Nat → Nat} {a : Nat} {c : e_Cl} {H : Heap} (h : e_at g ar a c H) : a < H.size := by
  match c, h with
  | .inl o, h => obtain ⟨r, q1, cell, q2, -⟩ := h; exact (Array.getElem?_eq_some_iff.mp q2).1
  | .inr (.inl x), h => exact (Array.getElem?_eq_some_iff.mp h).1
  | .inr (.inr (.inl x)), h => exact (Array.getElem?_eq_some_iff.mp h).1
  | .inr (.inr (.inr x)), h => obtain ⟨z, ⟨cell, q2, -⟩, -⟩ := h; exact (Array.getElem?_eq_some_iff.mp q2).1
theorem e_at.ltA {g : e_G} {ar : Nat → Nat} {a : Nat} {xs : List Nat} {cap : Nat} {H : Heap} (h : e_at g ar a (e_L xs cap) H) (hc : cap ≠ 0) : ar a < H.size := by
  obtain ⟨z, q1, q2, q3⟩ := h
  rcases q3 with q | q
  · exact absurd q hc
  · exact (Array.getElem?_eq_some_iff.mp q).1
def e_nL (c : e_Cl) : Prop := ∀ x, c ≠ .inr (.inr (.inr x))
theorem e_rep.wr {g : e_G} {h : e_Hp} {H H' : Heap} {a : Nat} {c0 c : e_Cl} (hr : e_rep g h H) (ha : h.1 a = some c0) (hc : e_nL c) (hz : H'.size = H.size) (ho : ∀ q, q ≠ a → H'[q]? = H[q]?) (hat : ∀ ar, e_at g ar a c H') : e_rep g (e_wr h a c) H' := by
  obtain ⟨h0, ar, h1, h2⟩ := hr
  refine ⟨hz.trans h0, ar, fun b d hb => ?_, fun b xs cap hb hcap => ?_⟩
  · by_cases hba : b = a
    · subst hba
      simp only [e_wr, va_up, if_pos] at hb
      cases hb
      exact ⟨(h1 b c0 ha).1, hat ar⟩
    · simp only [e_wr, va_up, if_neg hba] at hb
      obtain ⟨x1, x2⟩ := h1 b d hb
      refine ⟨x1, x2.kept (ho b hba) (fun xs cap hd hcap => ho _ (fun z => ?_))⟩
      subst hd
      have := (h2 b xs cap hb hcap).2.1
      rw [z, ha] at this
      cases this
  · have hba : b ≠ a := by
      intro z; subst z
      simp only [e_wr, va_up, if_pos] at hb
      cases hb
      exact hc _ rfl
    simp only [e_wr, va_up, if_neg hba] at hb
    obtain ⟨x1, x2, x3⟩ := h2 b xs cap hb hcap
    have hra : ar b ≠ a := by
      intro z; rw [z, ha] at x2; cases x2
    refine ⟨x1, ?_, fun b' ys cap' hb' hcap' hab => ?_⟩
    · simp only [e_wr, va_up, if_neg hra]; exact x2
    · have hba' : b' ≠ a := by
        intro z; subst z
        simp only [e_wr, va_up, if_pos] at hb'
        cases hb'
        exact hc _ rfl
      simp only [e_wr, va_up, if_neg hba'] at hb'
      exact x3 b' ys cap' hb' hcap' hab
theorem e_rep.al {g : e_G} {h : e_Hp} {H H' : Heap} {c : e_Cl} {k : Nat} (hr : e_rep g h H) (hB : e_B g ≤ H.size) (hc : e_nL c) (hz : H'.size = H.size + 1) (ho : ∀ q, q < H.size → H'[q]? = H[q]?) (hat : ∀ ar, e_at g ar H.size c H') : e_rep g (e_al h c k) H' := by
  obtain ⟨h0, ar, h1, h2⟩ := hr
  have hn : ∀ b d, h.1 b = some d → b ≠ h.2.1 := fun b d hb z => by
    have := (h1 b d hb).2.lt
    omega
  have hna : ∀ b xs cap, h.1 b = some (e_L xs cap) → cap ≠ 0 → ar b < h.2.1 := fun b xs cap hb hcap => by
    have := (h1 b _ hb).2.ltA hcap
    omega
  have key : ∀ b d, (e_al h c k).1 b = some d → (b = h.2.1 ∧ d = c) ∨ (b ≠ h.2.1 ∧ h.1 b = some d) := by
    intro b d hb
    by_cases hba : b = h.2.1
    · subst hba
      simp only [e_al, va_up, if_pos] at hb
      cases hb
      exact Or.inl ⟨rfl, rfl⟩
    · simp only [e_al, va_up, if_neg hba] at hb
      exact Or.inr ⟨hba, hb⟩
  refine ⟨by rw [hz, h0]; rfl, ar, fun b d hb => ?_, fun b xs cap hb hcap => ?_⟩
  · rcases key b d hb with ⟨rfl, rfl⟩ | ⟨e1, e2⟩
    · exact ⟨by omega, by rw [← h0]; exact hat ar⟩
    · obtain ⟨x1, x2⟩ := h1 b d e2
      refine ⟨x1, x2.kept (ho b x2.lt) (fun xs cap hd hcap => ho _ ?_)⟩
      subst hd
      have := hna b xs cap e2 hcap
      omega
  · rcases key b _ hb with ⟨rfl, e2⟩ | ⟨e1, e2⟩
    · exact absurd e2.symm (hc _)
    · obtain ⟨x1, x2, x3⟩ := h2 b xs cap e2 hcap
      have hlt := hna b xs cap e2 hcap
      refine ⟨x1, ?_, fun b' ys cap' hb' hcap' hab => ?_⟩
      · have hne : ar b ≠ h.2.1 := by omega
        simp only [e_al, va_up, if_neg hne]; exact x2
      · rcases key b' _ hb' with ⟨rfl, e4⟩ | ⟨e3, e4⟩
        · exact absurd e4.symm (hc _)
        · exact x3 b' ys cap' e4 hcap' hab
section HE
variable {g : e_G} {k o : Nat} {Ψ : e_Q} {pc : Nat} {lv : e_Lv} {st : List Value} {h : e_Hp}
theorem e_hstep {pc' : Nat} {lv' : e_Lv} {st' : List Value} {h2 : e_Hp} (hn : h.2.1 ≤ h2.2.1) (hu : h.2.2 ≤ h2.2.2)
    (hstep : ∀ {u0 : Nat} {p : Program} {e : Env} {s : State} {m : MethodId} {args : Array Value} {below : List Frame} {meth : Method} {c : Code} {H : Heap} {locs : List Loc} {ls : Array Slot} {R : Room} {Q : State → Prop}, u0 ≤ h.2.2 → e_mc g k p s m args meth c → s.heap.size ≤ h.2.1 → (∀ q ∈ locs, e_B g ≤ q.base) → (∀ q : Nat, q < e_B g → H[q]? = g.2.1.heap[q]?) → e_rep g h H → e_lv ls (e_mL k) lv → h2.2.1 - s.heap.size ≤ R.cells → h2.2.2 - u0 ≤ R.slots →
      (∀ (H' : Heap) (locs' : List Loc) (ls' : Array Slot), (∀ q ∈ locs', e_B g ≤ q.base) → (∀ q : Nat, q < e_B g → H'[q]? = g.2.1.heap[q]?) → e_rep g h2 H' → e_lv ls' (e_mL k) lv' → W p g.1 e R s m args below meth c H' locs' (h2.2.1 - s.heap.size) (h2.2.2 - u0) Q (F0 m pc' ls' st')) →
      W p g.1 e R s m args below meth c H locs (h.2.1 - s.heap.size) (h.2.2 - u0) Q (F0 m pc ls st))
    (hk : e_Wm g k Ψ pc' lv' st' h2) : e_Wm g k Ψ pc lv st h := by
  obtain ⟨r, h', h1, h2', h3, h4⟩ := hk
  refine ⟨r, h', h1, Nat.le_trans hn h2', Nat.le_trans hu h3, ?_⟩
  intro u0 hu0 p e s m args below meth c H locs ls hm hs hl hb hr hv
  refine hstep hu0 hm hs hl hb hr hv (by show _ ≤ h'.2.1 - s.heap.size; omega) (by show _ ≤ h'.2.2 - u0; omega) (fun H' locs' ls' q1 q2 q3 q4 => ?_)
  exact h4 u0 (Nat.le_trans hu0 hu) p e s m args below meth c H' locs' ls' hm (Nat.le_trans hs hn) q1 q2 q3 q4
theorem e_gO_spec {h : e_Hp} {a ci : Nat} {kk : (Nat → Value) → Prop} (q : e_gO h a ci kk) : ∃ V, h.1 a = some (e_O ci V) ∧ kk V := by
  unfold e_gO at q; split at q
  · rename_i x hx
    obtain ⟨x1, x2⟩ := x
    obtain ⟨q1, q2⟩ := q
    subst q1
    exact ⟨_, hx, q2⟩
  · exact q.elim
theorem e_gI_spec {h : e_Hp} {a t : Nat} {kk : Nat → (Nat → Int32) → Prop} (q : e_gI h a t kk) : ∃ n f, h.1 a = some (e_I t n f) ∧ kk n f := by
  unfold e_gI at q; split at q
  · rename_i x hx
    obtain ⟨x1, x2, x3⟩ := x
    obtain ⟨q1, q2⟩ := q
    subst q1
    exact ⟨_, _, hx, q2⟩
  · exact q.elim
theorem e_gR_spec {h : e_Hp} {a : Nat} {kk : Nat → Nat → (Nat → Option Nat) → Prop} (q : e_gR h a kk) : ∃ t n f, h.1 a = some (e_R t n f) ∧ kk t n f := by
  unfold e_gR at q; split at q
  · rename_i x hx
    obtain ⟨x1, x2, x3⟩ := x
    exact ⟨_, _, _, hx, q⟩
  · exact q.elim
theorem e_om_spec {α : Type} {x : Option α} {kk : α → Prop} (q : e_om x kk) : ∃ v, x = some v ∧ kk v := by
  unfold e_om at q; split at q
  · exact ⟨_, rfl, q⟩
  · exact q.elim
theorem e_p1i_spec {kk : Int32 → List Value → Prop} (q : e_p1i st kk) : ∃ x r, st = .int x :: r ∧ kk x r := by
  unfold e_p1i at q; split at q
  · exact ⟨_, _, rfl, q⟩
  · exact q.elim
theorem e_p1r_spec {kk : Nat → List Value → Prop} (q : e_p1r st kk) : ∃ x r, st = .ref x :: r ∧ kk x r := by
  unfold e_p1r at q; split at q
  · exact ⟨_, _, rfl, q⟩
  · exact q.elim
theorem e_obj {h : e_Hp} {H : Heap} {a ci : Nat} {V : Nat → Value} (hr : e_rep g h H) (ha : h.1 a = some (e_O ci V)) : e_B g ≤ a ∧ ∃ r : vw_C, vwCl[ci]? = some r ∧ t_OB a (g.2.2.1.1 ci) r.2.2 (g.2.2.1.2 ci) H V := by
  obtain ⟨h0, ar, h1, h2⟩ := hr
  obtain ⟨x1, r, x2, x3⟩ := h1 a _ ha
  exact ⟨x1, r, x2, x3⟩
theorem e_arI {h : e_Hp} {H : Heap} {a t n : Nat} {f : Nat → Int32} (hr : e_rep g h H) (ha : h.1 a = some (e_I t n f)) : e_B g ≤ a ∧ H[a]? = some (arrV (g.2.2.2.1 t) n (fun j => .int (f j))) := by
  obtain ⟨h0, ar, h1, h2⟩ := hr
  exact h1 a _ ha
theorem e_arR {h : e_Hp} {H : Heap} {a t n : Nat} {f : Nat → Option Nat} (hr : e_rep g h H) (ha : h.1 a = some (e_R t n f)) : e_B g ≤ a ∧ H[a]? = some (arrV (g.2.2.2.1 t) n (fun j => va_rf (f j))) := by
  obtain ⟨h0, ar, h1, h2⟩ := hr
  exact h1 a _ ha
theorem e_tb_ws {k : Nat} {w : Cond} (h : w ∈ e_tb) : w ∈ e_ws k := List.mem_cons_of_mem _ h
theorem e_mc.K {p : Program} {s : State} {m : MethodId} {args : Array Value} {meth : Method} {c : Code} (hg : e_GK g) (hm : e_mc g k p s m args meth c) : va_K g.2.2.1 vwCl (e_tys g) s := va_K.moved hm.2.2.2.2.2.2.2.2.1 hg.1
theorem e_mc.w {p : Program} {s : State} {m : MethodId} {args : Array Value} {meth : Method} {c : Code} (hm : e_mc g k p s m args meth c) {w : Cond} (h : w ∈ e_tb) : w.before args s = true := hm.2.2.2.2.2.1 w (e_tb_ws h)
theorem e_mc.own {p : Program} {s : State} {m : MethodId} {args : Array Value} {meth : Method} {c : Code} (ho : (e_y k).cls = e_cn o) (hm : e_mc g k p s m args meth c) : s.vm.findClass (e_cn o) = some m.cls := by rw [← ho]; exact hm.2.2.2.2.1
theorem e_w_getfield {K : e_K} {x : Nat} (hg : e_GK g) (ho : (e_y k).cls = e_cn o) (hd : decode (e_c k) pc = .ok (.getfield x, 3)) (hK : ∀ lv st h, K lv st h → e_Wm g k Ψ (pc + 3) lv st h)
    (q : e_p1r st (fun a r => e_om (e_FT o x) (fun c => e_gO h a c.1 (fun V => K lv (V c.2.1 :: r) h)))) : e_Wm g k Ψ pc lv st h := by
  obtain ⟨a, r, rfl, q⟩ := e_p1r_spec q
  obtain ⟨⟨ci, f, tk⟩, hft, q⟩ := e_om_spec q
  obtain ⟨V, ha, q⟩ := e_gO_spec q
  obtain ⟨C, hC, hf, hw, -⟩ := e_FT_ok hft
  refine e_hstep (Nat.le_refl _) (Nat.le_refl _) (fun {u0 p e s m args below meth c H locs ls R Q} hu0 hm hs hl hb hr hv _ _ kk => ?_) (hK _ _ _ q)
  obtain ⟨-, C', hC', cell, q1, q2, q3, q4⟩ := e_obj hr ha
  cases hC.symm.trans hC'
  obtain ⟨hS, hfc, kC, hkC, hkind⟩ := (hm.K hg).1 ci _ hC
  obtain ⟨cf, kf, fi, fd, hi, hsl⟩ := hS f hf
  have hin := (e_cls hC).1
  refine W.getf hm.1 hm.2.1 (hm.own ho) (hm.w hw) hi (u_facts hfc hkC (u_lays hm.2.2.2.2.2.1 (fun w hw => e_tb_ws (hin w hw)) hf) hi).1 q1 (by rw [q3]; exact fun h => by cases h) (v := V f) ?_ rfl rfl hd (kk H locs ls hl hb hr hv)
  rw [hsl, q4 f hf]
theorem e_fit_ok {tk : Nat} {v : Value} {ty : FieldType} (h : e_fit tk v) (ht : (ty = .int ∧ tk = 0) ∨ (ty = .boolean ∧ tk = 1) ∨ (((∃ C, ty = .object C) ∨ ∃ t, ty = .array t) ∧ tk = 2)) : narrow ty v = v ∧ fits ty v = true := by
  rcases ht with ⟨rfl, rfl⟩ | ⟨rfl, rfl⟩ | ⟨hx, rfl⟩
  · cases v <;> first | exact ⟨rfl, rfl⟩ | exact h.elim
  · cases v with
    | int x =>
      have h : x = 0 ∨ x = 1 := h
      rcases h with rfl | rfl <;> decide
    | _ => exact h.elim
  · rcases hx with ⟨C, rfl⟩ | ⟨t, rfl⟩
    · cases v <;> first | exact ⟨rfl, rfl⟩ | exact h.elim
    · cases v <;> first | exact ⟨rfl, rfl⟩ | exact h.elim
theorem e_upV {V : Nat → Value} {f : Nat} {v : Value} (j : Nat) : updV V f v j = va_up V f v j := rfl
/-- which method may write which field -/
def e_pok (k o x : Nat) : Bool := match e_FT o x with
  | some (ci, f, _) => (match vwCl[ci]? with
    | some r => (!(r.2.1 f).2.2.2) || (decide ((e_y k).name = "<init>") && decide ((r.2.1 f).1 = e_cn o))
    | none => false)
  | none => false
theorem e_w_putfield {K : e_K} {x : Nat} (hg : e_GK g) (ho : (e_y k).cls = e_cn o) (hd : decode (e_c k) pc = .ok (.putfield x, 3)) (hp : e_pok k o x = true) (hK : ∀ lv st h, K lv st h → e_Wm g k Ψ (pc + 3) lv st h)
    (q : e_p2 st (fun v a r => e_om (e_FT o x) (fun c => e_fit c.2.2 v ∧ e_gO h a c.1 (fun V => K lv r (e_wr h a (e_O c.1 (va_up V c.2.1 v))))))) : e_Wm g k Ψ pc lv st h := by
  unfold e_p2 at q; split at q
  · rename_i v a r
    obtain ⟨⟨ci, f, tk⟩, hft, hfit, q⟩ := e_om_spec q
    obtain ⟨V, ha, q⟩ := e_gO_spec q
    obtain ⟨C, hC, hf, hw, ty, hty, htk⟩ := e_FT_ok hft
    obtain ⟨hin, ⟨ty0, hty0⟩, hnm⟩ := e_cls hC
    have hfn := e_fit_ok hfit htk
    refine e_hstep (h2 := e_wr h a (e_O ci (va_up V f v))) (Nat.le_refl _) (Nat.le_refl _) (fun {u0 p e s m args below meth c H locs ls R Q} hu0 hm hs hl hb hr hv _ _ kk => ?_) (hK _ _ _ q)
    obtain ⟨hBa, C', hC', cell, q1, q2, q3, q4⟩ := e_obj hr ha
    cases hC.symm.trans hC'
    have hin' : ∀ w ∈ u_ws C.1 C.2.1 C.2.2, w ∈ e_ws k := fun w hw => e_tb_ws (hin w hw)
    have hap := va_apart (own := e_cn o) hm.2.2.2.2.2.1 hin' ty0 hty0 hnm (hm.K hg) hC
    obtain ⟨hS, hfc, kC, hkC, hkind⟩ := (hm.K hg).1 ci _ hC
    obtain ⟨cf, kf, fi, fd, hi, hsl⟩ := hS f hf
    have hst := (u_facts hfc hkC (u_lays hm.2.2.2.2.2.1 hin' hf) hi).1
    have hlay := hm.2.2.2.2.2.1 _ (hin' _ (u_in_lay hf))
    have fin : ∀ H' : Heap, H'[a]? = some (cell.setSlot fd.slot v) → H'.size = H.size → (∀ q, q ≠ a → H'[q]? = H[q]?) → W p g.1 e R s m args below meth c H' (locs ++ [⟨a, fd.slot⟩]) (h.2.1 - s.heap.size) (h.2.2 - u0) Q (F0 m (pc + 3) ls r) := by
      intro H' e1 e2 e3
      refine kk H' _ ls (fun q hq => ?_) (fun q hq => ?_) (hr.wr ha (fun x hx => by cases hx) e2 e3 (fun ar => ⟨C, hC, ?_⟩)) hv
      · rcases List.mem_append.mp hq with h1 | h1
        · exact hl q h1
        · rw [List.mem_singleton.mp h1]; exact hBa
      · rw [e3 q (Nat.ne_of_lt (Nat.lt_of_lt_of_le hq hBa))]; exact hb q hq
      · rw [hsl] at e1
        exact ⟨_, e1, q2, q3, t_set q4 hap hf v⟩
    unfold e_pok at hp
    rw [hft] at hp
    simp only [hC] at hp
    by_cases hfin : (C.2.1 f).2.2.2 = true
    · rw [hfin] at hp
      simp only [Bool.not_true, Bool.false_or, Bool.and_eq_true, decide_eq_true_eq] at hp
      unfold u_lay at hlay
      rw [if_pos hfin] at hlay
      have hcf : m.cls = cf := by
        obtain ⟨_, _, c', _, _, _, -, -, hf', -, -, -, hown2, -⟩ := Cond.laysFinal_spec hlay
        have e1 : c' = cf := by have := hi.symm.trans hf'; simp at this; exact this.1.symm
        rw [hp.2] at hown2
        rw [← e1]; exact Option.some.inj ((hm.own ho).symm.trans hown2)
      have h6 := u_fits hfc hkC hkind (Or.inr hlay) hi hty hfn.1 hfn.2
      exact W.putFinK hm.1 hm.2.1 (hm.own ho) (hm.w hw) hi hst hcf (by rw [hm.2.2.2.2.2.2.2.1]; exact hp.1) (by rw [q2]; exact h6) q1 q3 (by rw [hsl]; exact k2_hasslot (q4 f hf)) rfl rfl hd fin
    · unfold u_lay at hlay
      rw [if_neg hfin] at hlay
      have h6 := u_store hfc hkC hkind hlay hi hty hfn.1 hfn.2
      exact W.putK hm.1 hm.2.1 (f := fd) ⟨hm.own ho, hm.w hw, ⟨_, _, _, hi⟩, hst⟩ (by rw [q2]; exact h6) q1 q3 (by rw [hsl]; exact k2_hasslot (q4 f hf)) rfl rfl hd fin
  · exact q.elim
end HE
