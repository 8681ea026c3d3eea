/-! the claim -/
-- ===== YOUR PART BEGINS =====
theorem whole_start {p : Program} {e : Env} {s : State} {m : MethodId} {below : List Frame} {meth : Method} {c : Code} (l : Launch) {b L : Nat} {xs : Nat → Int32} (hL : L ≤ 3072) (C0 : lw_At p s m meth c b L xs) : W p l e room_1 s m #[Value.ref b] below meth c s.heap [] 0 0 (lw_Z below #[Value.ref b] s) (entryFrame m ([Value.ref b] : List Value).toArray 4) := by
  obtain ⟨g, rfl, rfl, hg, hC0⟩ := l_start l C0
  have hA := a_AK hg hC0
  have hl := lv_entry ([.ref b]) (n := 4) (Nat.le_of_ble_eq_true rfl)
  rw [lg_entry_eq]
  generalize hls : (lg_sl ([.ref b]) ++ List.replicate (4 - (lg_sl ([.ref b])).length) Slot.unset).toArray = ls at hl ⊢
  have hv : e_lv ls 4 [some (.ref b), none, none, none] := by
    refine ⟨⟨hl.1, hl.2.1, fun q hq => ?_⟩, rfl⟩
    obtain ⟨i, v⟩ := q
    have hx := e_as_mem.mp hq
    match i, hx with
    | 0, hx => cases hx; exact hl.2.2 (0, .ref b) List.mem_cons_self
    | 1, hx => cases hx
    | 2, hx => cases hx
    | 3, hx => cases hx
    | i + 4, hx => cases hx
  suffices key : l_W g p e m below meth c b 0 [some (.ref b), none, none, none] [] (fun _ => none, (e_B g, 0)) by
    have := key (Nat.le_refl _) g.2.1.heap [] ls (fun q hq => by cases hq) (fun q _ => rfl) ⟨rfl, fun _ => 0, fun a d h => (by cases h), fun a ys cap h => (by cases h)⟩ hv
    rw [Nat.sub_self] at this
    exact this
  refine s_new (x := 7) (ci := 12) hg C0 (by decide +kernel) (by decide +kernel) (by show e_B g + 1 - e_B g ≤ 600000; omega) (show 0 + e_nf 12 ≤ 7302250 from by decide +kernel) ?_
  refine s_dup C0 (by decide +kernel) rfl ?_
  refine s_init (x := 9) (k' := 86) (ci := 12) (a := e_B g) (As := []) (st := [.ref (e_B g)]) C0 (by decide +kernel) (by decide +kernel) (by decide +kernel) (show 1 ≤ 8 from by decide) ?_
  generalize hs1 : 0 + e_nf 12 = s1
  have hs1' : s1 ≤ 20 := by rw [← hs1]; decide +kernel
  have h0 : e_al (fun _ => none, (e_B g, 0)) (e_O 12 (e_dv 12)) (e_nf 12) = K_H z_00 p_00 u_00 (va_up (fun _ => none) (e_B g) (some (e_O 12 (e_dv 12))), (e_B g + 1, s1)) := by
    rw [K_00, ← hs1]; rfl
  show e_Sc g 86 _ _ _
  rw [h0]
  refine h_newHouse hg hA (fun _ _ => rfl) (fun _ _ => rfl) ⟨⟨by show e_B g + 26 - e_B g ≤ 600000; omega, by show s1 + 322 ≤ 7302250; omega⟩, ?_⟩
  show l_W g p e m below meth c b _ _ [.ref (e_B g)] _
  refine s_astore (i := 1) C0 (by decide +kernel) (show 1 < 4 from by decide) ?_
  refine s_new (x := 10) (ci := 13) hg C0 (by decide +kernel) (by decide +kernel) (by show e_B g + 26 + 1 - e_B g ≤ 600000; omega) (by show s1 + 322 + e_nf 13 ≤ 7302250; rw [show e_nf 13 = 102 from by decide +kernel]; omega) ?_
  show l_W g p e m below meth c b _ _ [.ref (e_B g + 26)] _
  refine s_dup C0 (by decide +kernel) rfl ?_
  refine s_init (x := 12) (k' := 152) (ci := 13) (a := e_B g + 26) (As := []) (st := [.ref (e_B g + 26)]) C0 (by decide +kernel) (by decide +kernel) (by decide +kernel) (show 1 ≤ 8 from by decide) ?_
  show e_Sc g 152 _ _ _
  have e13 : e_nf 13 = 102 := by decide +kernel
  refine l_conv (h2 := n_H 0 (e_B g + 26) (fun _ => 0) (s1 + 322 + 102) (K_H (k_HZ z_00 (e_B g)) (k_HP p_00 (e_B g)) (k_HU u_00 (e_B g)) (fun _ => none, (e_B g + 26, s1 + 322))).1) (fun H hr => ?_) ?_ ?_
  · refine l_eqV (a := e_B g + 26) (ci := 13) (N := 102) (V1 := e_dv 13) (V2 := n_V 0 (e_B g + 26) (fun _ => 0)) (C := (RX12, TX12, 102)) rfl rfl q_as (if_pos rfl) (fun k hk => by rw [n_V0M]; exact n_V0 k hk) (fun a ha => ?_) ?_ hr
    · rw [q_an ha]
      show (if a = e_B g + 26 then _ else if e_B g + 26 < a ∧ a ≤ e_B g + 26 + 0 then _ else _) = _
      rw [if_neg ha, if_neg (by omega)]
    · show (e_B g + 26 + 1 + 0, s1 + 322 + 102) = (e_B g + 26 + 1, s1 + 322 + e_nf 13)
      rw [e13]
  · show (e_B g + 26 + 1 + 0, s1 + 322 + 102) = (e_B g + 26 + 1, s1 + 322 + e_nf 13)
    rw [e13]
  refine c_newModel hg ⟨⟨by show e_B g + 26 + 72 - e_B g ≤ 600000; omega, by show s1 + 322 + 102 + 141267 ≤ 7302250; omega⟩, ?_⟩
  show l_W g p e m below meth c b _ _ [.ref (e_B g + 26)] _
  refine s_astore (i := 2) C0 (by decide +kernel) (show 2 < 4 from by decide) ?_
  refine s_iconst (i := 0) (x := 0) C0 (by decide +kernel) rfl ?_
  refine s_istore (i := 3) C0 (by decide +kernel) (show 3 < 4 from by decide) ?_
  exact l_loop (own := e_B g) (r0 := (e_B g + 98, s1 + 322 + 102 + 141267)) hg hA C0 hL rfl rfl (by show s1 + 322 + 102 + 141267 ≤ 200000; omega) 513 0 _ _ _ _ S_0 rfl (by decide) first_V
-- ===== YOUR PART ENDS =====

set_option maxHeartbeats 4000000 in
theorem lw_walk (l : Launch) (b : Addr) (xs : List Int32) : MetFree l x (headSpec (Jvm.Cond.code x code maxLocals ret :: tables_1) room_1) (lw_P b xs) (fun _ _ _ _ _ => True) lw_Q := by
  refine MetFree.of_bodyS (code := code) (maxLocals := maxLocals) (ret := ret) (by decide) ?_ ?_
  · intro args s m h hn
    obtain ⟨meth, c, h1, h2, h3, h4, h5, h6, -, -⟩ := Cond.code_spec hn (atoms_spec (ws := Jvm.Cond.code x code maxLocals ret :: tables_1) h _ List.mem_cons_self)
    exact ⟨meth, c, h1, h2, h3, h4, h5, h6⟩
  · intro p e s m args below meth c s₁ B hml0 hP _
    obtain ⟨rfl, hx, hbd, hgv⟩ := hP
    obtain ⟨scr, harrAt, hlist, hof, hsmall⟩ := hx
    obtain ⟨hcb, hkn, -, -⟩ := State.arrayAt?_spec harrAt
    have hown : s.vm.findClass R_law = some m.cls := findClass_of_methodNamed B.named
    have hts0 : ∀ c ∈ (Jvm.Cond.code x code maxLocals ret :: tables_1), c.before #[Value.ref b] s = true := atoms_spec (ws := Jvm.Cond.code x code maxLocals ret :: tables_1) B.pre
    have hts : ∀ w ∈ lw_tbl, w.before #[Value.ref b] s = true := k2_hts_sels lw_privs (fun w hw => hts0 w (List.mem_cons_of_mem _ hw)) lw_privs_ok
    have hml : c.maxLocals = 4 := B.maxLocals_eq (hts0 _ List.mem_cons_self)
    have X₀ : Stand p l e room_1 s m #[Value.ref b] below meth c s₁ [] 0 0 := Stand.of_body B
    have hh0 : s₁.heap = s.heap := by rw [B.state]; rfl
    have hsz : scr.slots.size = xs.length := by rw [← Array.length_toList, hlist, List.length_map]
    have hval : ∀ j : Nat, j < xs.length → scr.slots[j]? = some (.int (xs.getD j 0)) := fun j hj => by
      rw [← Array.getElem?_toList, hlist]
      simp [hj]
    have hbl : b < s.heap.size := (Array.getElem?_eq_some_iff.mp hcb).1
    have hX : va_X b xs.length (fun j => xs.getD j 0) s s.heap := ⟨scr, hcb, hof, hkn, hsz, hval⟩
    have K : W p l e room_1 s m #[Value.ref b] below meth c s₁.heap [] 0 0 (lw_Z below #[Value.ref b] s) (entryFrame m ([Value.ref b] : List Value).toArray 4) := by
      rw [hh0]
      exact whole_start l hbd ⟨B.exec, B.bytes, B.returns, hml, hown, hts, hX, hbl, B.notSynchronized, hgv⟩
    obtain ⟨t, a1, o, b1, b2, b3⟩ := K s₁ rfl X₀
    exact ⟨t, o, a1, b1, b2, b3⟩
theorem lw_pre_spec {args : Array Value} {s : State} (h : (Jvm.Cond.and given_1 narrow_1).before args s = true) (hr : rest_1_c.before args s = true) : ∃ (b : Addr) (xs : List Int32), lw_P b xs args s := by
  have hs := flat_of_before _ h
  have hq := flat_of_before _ hr
  have hc : (Cond.count 1).before args s = true := hs _ (by decide +kernel)
  have harr : (Cond.arrayOf (.arg 0) .int).before args s = true := hs _ (by decide +kernel)
  have hle : (Cond.le (.length (.arg 0)) (.int 3072)).before args s = true := hs _ (by decide +kernel)
  have hlen : (Cond.isInt (.length (.arg 0))).before args s = true := hq _ (by decide +kernel)
  have hall : (Cond.all (.arg 0) (.isInt (.elem (.arg 0) (.index 0)))).before args s = true := hq _ (by decide +kernel)
  obtain ⟨b, xs, hb, hx⟩ := State.ints_of_pre rfl harr hlen hall
  have hsm : xs.length < 2 ^ 31 := hx.choose_spec.2.2.2
  have hev : (Term.length (.arg 0)).eval args s none [] s = some (.int xs.length.toInt32) := hx.length_eval hb
  have hv := Cond.le_ints hev (show (Term.int 3072).eval args s none [] s = some (.int 3072) from rfl)
  have hd : xs.length.toInt32 ≤ 3072 := by
    simpa [Cond.before, Cond.holds, hv] using hle
  have hN : xs.length ≤ 3072 := (Int32.ofNat_le_ofNat hsm (by decide)).mp (show Int32.ofNat xs.length ≤ Int32.ofNat 3072 from hd)
  exact ⟨b, xs, Cond.one_arg hc (show args[0]? = some (.ref b) from hb), hx, hN, h⟩
theorem lw_comes (l : Launch) : Comes l x (Jvm.Cond.code x code maxLocals ret :: tables_1) room_1 (fun tb e args s => Calls_1 tb e args s ∧ rest_1 tb e args s ∧ Pre_1 tb e args s)
    (fun _ _ args s o t => lw_Q args s o t) := by
  intro p e ha hc hk s m args below hf hfit hheap happ hpre
  obtain ⟨b, xs, hP⟩ := lw_pre_spec hpre.2.2 hpre.2.1
  obtain ⟨k, o, h1, h2, h3, hQ⟩ := lw_walk l b xs p e ha hc hk s m args below hf ((Spec.applies_iff_loose hf).mp happ).1 hP trivial
  exact ⟨k, o, h1, h2, h3, hQ⟩
theorem lw_frame {s t : State} {o : Outcome} {args : Array Value} (h : Framed s o t [] 600000 7302250) :
    Framed s o t (fieldLocs frame_1_writes args s ++ arrayLocs frame_1_arrays args s ++ staticLocs frame_1_statics s) 600000 7302250 := h
theorem lw_limb (L : Cond) (hL : ∀ (args : Array Value) (s t : State), L.after args s (.returned (some (.int 1))) t = true) :
    ArmFor flags0 classFile x code maxLocals ret World_1 tables_1 room_1 Calls_1 rest_1 Pre_1
      (fun tb e a s o t => postC L tb e a s o t ∧ Framed s o t (fieldLocs frame_1_writes a s ++ arrayLocs frame_1_arrays a s ++ staticLocs frame_1_statics s) 600000 7302250) := by
  intro l _ _ _ p e ha hc hk s m args below hf hfit hheap happ hpre
  obtain ⟨k, o, h1, h2, h3, rfl, hF⟩ := lw_comes l p e ha hc hk s m args below hf hfit hheap happ hpre
  exact ⟨k, _, h1, h2, h3, hL args s _, lw_frame hF⟩
theorem i_vc : Claimed_1_1 ∧ Claimed_1_2 := ⟨lw_limb limb_1_1 (fun args s t => by simp [limb_1_1, Cond.after, Cond.holds, Cond.value]), lw_limb limb_1_2 (fun args s t => Cond.after_iff.mpr (by
  first | (rw [show limb_1_2 = Cond.eq .result (.int 1) from rfl, Cond.eq_ints (x := 1) (y := 1) rfl rfl]; simp; done) | (simp [limb_1_2, Cond.value, Term.eval]; done)))⟩
