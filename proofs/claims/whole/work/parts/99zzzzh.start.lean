/-! what is known of the start -/
set_option maxRecDepth 20000 in
theorem sc_1 : Cond.castable RX0 "java/lang/Object" ∈ lw_tbl := e_t8 (List.mem_of_getElem? (i := 192) rfl)
set_option maxRecDepth 20000 in
theorem sc_2 : Cond.castable RX1 "java/lang/Object" ∈ lw_tbl := e_t8 (List.mem_of_getElem? (i := 191) rfl)
set_option maxRecDepth 20000 in
theorem sc_3 : Cond.castable RX2 "java/lang/Object" ∈ lw_tbl := e_t8 (List.mem_of_getElem? (i := 193) rfl)
set_option maxRecDepth 20000 in
theorem sc_4 : Cond.castable RX3 "java/lang/Object" ∈ lw_tbl := e_t8 (List.mem_of_getElem? (i := 184) rfl)
set_option maxRecDepth 20000 in
theorem sc_5 : Cond.castable RX4 "java/lang/Object" ∈ lw_tbl := e_t8 (List.mem_of_getElem? (i := 183) rfl)
set_option maxRecDepth 20000 in
theorem sc_6 : Cond.castable RX5 "java/lang/Object" ∈ lw_tbl := e_t8 (List.mem_of_getElem? (i := 185) rfl)
set_option maxRecDepth 20000 in
theorem sc_7 : Cond.castable RX6 "java/lang/Object" ∈ lw_tbl := e_t8 (List.mem_of_getElem? (i := 190) rfl)
set_option maxRecDepth 20000 in
theorem sc_8 : Cond.castable RX7 "java/lang/Object" ∈ lw_tbl := e_t8 (List.mem_of_getElem? (i := 182) rfl)
set_option maxRecDepth 20000 in
theorem sc_9 : Cond.castable RX8 "java/lang/Object" ∈ lw_tbl := e_t8 (List.mem_of_getElem? (i := 189) rfl)
set_option maxRecDepth 20000 in
theorem sc_10 : Cond.castable RX9 "java/lang/Object" ∈ lw_tbl := e_t8 (List.mem_of_getElem? (i := 186) rfl)
set_option maxRecDepth 20000 in
theorem sc_11 : Cond.castable RX10 "java/lang/Object" ∈ lw_tbl := e_t8 (List.mem_of_getElem? (i := 188) rfl)
set_option maxRecDepth 20000 in
theorem sc_12 : Cond.castable RX11 "java/lang/Object" ∈ lw_tbl := e_t8 (List.mem_of_getElem? (i := 181) rfl)
set_option maxRecDepth 20000 in
theorem sc_13 : Cond.castable RX12 "java/lang/Object" ∈ lw_tbl := e_t8 (List.mem_of_getElem? (i := 187) rfl)
set_option maxRecDepth 20000 in
theorem sa_T : Cond.arrayOver (.object "HoldHouse$Thing") ∈ lw_tbl := e_t1 (List.mem_of_getElem? (i := 39) rfl)
set_option maxRecDepth 20000 in
theorem sa_S : Cond.arrayOver (.object "HoldHouse$Spot") ∈ lw_tbl := e_t1 (List.mem_of_getElem? (i := 84) rfl)
set_option maxRecDepth 20000 in
theorem sa_O : Cond.arrayOver (.object "java/lang/Object") ∈ lw_tbl := e_t2 (List.mem_of_getElem? (i := 208) rfl)
set_option maxRecDepth 20000 in
theorem sa_I : Cond.arrayClass .int ∈ lw_tbl := e_t1 (List.mem_of_getElem? (i := 70) rfl)
set_option maxRecDepth 20000 in
theorem sa_Z : Cond.arrayClass .boolean ∈ lw_tbl := e_t7 (List.mem_of_getElem? (i := 56) rfl)
set_option maxRecDepth 20000 in
theorem sl_0 : Cond.laysStatic "java/util/ArrayList" "DEFAULTCAPACITY_EMPTY_ELEMENTDATA" "[Ljava/lang/Object;" ∈ lw_tbl := e_t1 (List.mem_of_getElem? (i := 98) rfl)
set_option maxRecDepth 20000 in
theorem sl_1 : Cond.laysStatic "HoldHouse" "SORTS_OF_KIND" "[I" ∈ lw_tbl := e_t4 (List.mem_of_getElem? (i := 96) rfl)
set_option maxRecDepth 20000 in
theorem sl_2 : Cond.laysStatic "HoldHouse" "SMALL_ONES" "[I" ∈ lw_tbl := e_t5 (List.mem_of_getElem? (i := 175) rfl)
set_option maxRecDepth 20000 in
theorem sn_0 : Cond.initialized "java/util/ArrayList" ∈ lw_tbl := e_t1 (List.mem_of_getElem? (i := 6) rfl)
set_option maxRecDepth 20000 in
theorem sn_1 : Cond.initialized "HoldHouse" ∈ lw_tbl := e_t1 (List.mem_of_getElem? (i := 1) rfl)
set_option maxRecDepth 20000 in
theorem sd_g : Cond.declares ⟨"java/lang/Object", "getClass", "()Ljava/lang/Class;"⟩ ∈ lw_tbl := e_t8 (List.mem_of_getElem? (i := 180) rfl)
abbrev tm_1 : Term := .static "HoldHouse" "SORTS_OF_KIND" "[I"
abbrev tm_2 : Term := .static "HoldHouse" "SMALL_ONES" "[I"
abbrev tm_0 : Term := .static "java/util/ArrayList" "DEFAULTCAPACITY_EMPTY_ELEMENTDATA" "[Ljava/lang/Object;"
set_option maxRecDepth 20000 in
theorem sf_1 : ∀ j, j < 22 → Cond.eq (.elem tm_1 (.int (Int32.ofNat j))) (.int ((e_stI 12 350).2 j)) ∈ flatC (Jvm.Cond.and given_1 narrow_1) := by decide +kernel
set_option maxRecDepth 20000 in
theorem sf_2 : ∀ j, j < 8 → Cond.eq (.elem tm_2 (.int (Int32.ofNat j))) (.int ((e_stI 12 293).2 j)) ∈ flatC (Jvm.Cond.and given_1 narrow_1) := by decide +kernel
theorem s_cast : ∀ (ci : Nat) (r : vw_C), 1 ≤ ci → vwCl[ci]? = some r → Cond.castable r.1 "java/lang/Object" ∈ lw_tbl := by
  intro ci r h1 hr
  match ci, h1, hr with
  | 1, _, hr => cases hr; exact sc_1
  | 2, _, hr => cases hr; exact sc_2
  | 3, _, hr => cases hr; exact sc_3
  | 4, _, hr => cases hr; exact sc_4
  | 5, _, hr => cases hr; exact sc_5
  | 6, _, hr => cases hr; exact sc_6
  | 7, _, hr => cases hr; exact sc_7
  | 8, _, hr => cases hr; exact sc_8
  | 9, _, hr => cases hr; exact sc_9
  | 10, _, hr => cases hr; exact sc_10
  | 11, _, hr => cases hr; exact sc_11
  | 12, _, hr => cases hr; exact sc_12
  | 13, _, hr => cases hr; exact sc_13
  | k + 14, _, hr => simp [vwCl] at hr
theorem l_start {p : Program} {s : State} {m : MethodId} {meth : Method} {c : Code} {b L : Nat} {xs : Nat → Int32} (l : Launch) (C0 : lw_At p s m meth c b L xs) : ∃ g : e_G, g.1 = l ∧ g.2.1 = s ∧ e_GK g ∧ e_GC g := by
  obtain ⟨hx, hb, hr, hml, hown, hts, hX, hbl, hlocks, hgv⟩ := C0
  have hs := flat_of_before _ hgv
  have hA : ∀ a : Nat, a < s.heap.size → ¬ (fun q : Nat => s.heap.size ≤ q) a := fun a h => Nat.not_le.mpr h
  have k1 : ∀ ci : Nat, ∃ cC : ClassId, ∃ iS : Nat → Nat, ∀ r : vw_C, vwCl[ci]? = some r → u_Kn s r.1 r.2.1 r.2.2 cC iS := by
    intro ci
    cases hC : vwCl[ci]? with
    | none => exact ⟨m.cls, fun _ => 0, fun r h => by cases h⟩
    | some r =>
      obtain ⟨cC, iS, hk⟩ := u_known hts (fun w hw => (List.mem_filter.mp ((e_cls hC).1 w hw)).1) (hts _ (List.mem_filter.mp (e_cls_in hC).1).1)
      exact ⟨cC, iS, fun r' h => by cases h; exact hk⟩
  obtain ⟨dC, k2⟩ := Classical.axiomOfChoice k1
  obtain ⟨dI, k3⟩ := Classical.axiomOfChoice k2
  obtain ⟨cI, kI, mI, i1, i2, i3⟩ := Cond.arrayClass_spec (hts _ sa_I)
  obtain ⟨cZ, kZ, mZ, z1, z2, z3⟩ := Cond.arrayClass_spec (hts _ sa_Z)
  obtain ⟨mT, cT, kT, t1, t2, t3, t4, t5⟩ := Cond.arrayOver_spec (hts _ sa_T)
  obtain ⟨mS, cS, kS, s1, s2, s3, s4, s5⟩ := Cond.arrayOver_spec (hts _ sa_S)
  obtain ⟨mO, cO, kO, o1, o2, o3, o4, o5⟩ := Cond.arrayOver_spec (hts _ sa_O)
  obtain ⟨a1, e1, T1⟩ := va_Tof (tm := tm_1) (ty := .int) (N := 22) (f := fun j => .int ((e_stI 12 350).2 j)) (A := fun q : Nat => s.heap.size ≤ q) (by decide) (hs _ (by decide +kernel)) (show _ = some (Value.int (22 : Int32)) from va_eqt (hs _ (by decide +kernel))) (fun j hj => va_eqt (hs _ (sf_1 j hj))) hA
  obtain ⟨a2, e2, T2⟩ := va_Tof (tm := tm_2) (ty := .int) (N := 8) (f := fun j => .int ((e_stI 12 293).2 j)) (A := fun q : Nat => s.heap.size ≤ q) (by decide) (hs _ (by decide +kernel)) (show _ = some (Value.int (8 : Int32)) from va_eqt (hs _ (by decide +kernel))) (fun j hj => va_eqt (hs _ (sf_2 j hj))) hA
  obtain ⟨a0, e0, T0⟩ := va_Tof (tm := tm_0) (ty := .object "java/lang/Object") (N := 0) (f := fun _ => .null) (A := fun q : Nat => s.heap.size ≤ q) (by decide) (hs _ (by decide +kernel)) (show _ = some (Value.int (0 : Int32)) from va_eqt (hs _ (by decide +kernel))) (fun j hj => absurd hj (Nat.not_lt_zero j)) hA
  refine ⟨(l, s, (dC, dI), (fun t => match t with | 0 => cI | 1 => cZ | 2 => cT | 3 => cS | _ => cO), (fun t => match t with | 0 => a0 | 1 => a1 | _ => a2)), rfl, rfl, ⟨⟨fun ci r hC => k3 ci r hC, fun k q hk => ?_⟩, va_AO.of (hts _ sa_T), va_AO.of (hts _ sa_S), va_AO.of (hts _ sa_O), hts _ sa_I, hts _ sa_Z, ?_⟩, fun ci r h1 hC => va_Nw.of rfl (hts _ (s_cast ci r h1 hC))⟩
  · match k, hk with
    | 0, hk => cases hk; exact ⟨fun n z => ⟨(fun k h => by cases h), kI, i2, mI, i3⟩, i1⟩
    | 1, hk => cases hk; exact ⟨fun n z => ⟨(fun k h => by cases h), kZ, z2, mZ, z3⟩, z1⟩
    | 2, hk => cases hk; exact ⟨fun n z => ⟨(fun k h => by cases h), kT, t3, mT, t4⟩, kT, mT, t3, t4, t1, t5⟩
    | 3, hk => cases hk; exact ⟨fun n z => ⟨(fun k h => by cases h), kS, s3, mS, s4⟩, kS, mS, s3, s4, s1, s5⟩
    | 4, hk => cases hk; exact ⟨fun n z => ⟨(fun k h => by cases h), kO, o3, mO, o4⟩, kO, mO, o3, o4, o1, o5⟩
    | k + 5, hk => simp [e_tys] at hk
  · exact ⟨va_Zof (hts _ sl_1) (hts _ sn_1) e1 hA, T1, va_Zof (hts _ sl_2) (hts _ sn_1) e2 hA, T2, va_Zof (hts _ sl_0) (hts _ sn_0) e0 hA, T0, va_Mi.of (hs (.isRef (.mirror "[Ljava/lang/Object;")) (by decide +kernel)), va_Dc.of (hts _ sd_g)⟩
