theorem e_tb_of {i : Nat} {w : Cond} (h : lw_tbl[i]? = some w) (hg : goodWord w = true) : w ∈ e_tb := List.mem_filter.mpr ⟨List.mem_of_getElem? h, hg⟩
theorem e_mem_pos {l : List Cond} (ps : List Nat) (h : l = ps.filterMap (fun i => lw_tbl[i]?)) (hg : l.all goodWord = true) : ∀ w ∈ l, w ∈ e_tb := by
  intro w hw
  have h1 := List.all_eq_true.mp hg w hw
  rw [h] at hw
  obtain ⟨i, -, hi⟩ := List.mem_filterMap.mp hw
  exact e_tb_of hi h1
set_option maxRecDepth 20000 in
theorem e_lay0 : ∀ w ∈ u_ws RJx4a65c TJx4a65c 3, w ∈ e_tb := e_mem_pos [208, 204, 206] (by decide +kernel) (by decide +kernel)
set_option maxRecDepth 20000 in
theorem e_lay1 : ∀ w ∈ u_ws RX0 TX0 6, w ∈ e_tb := e_mem_pos [600, 602, 604, 606, 608, 610] (by decide +kernel) (by decide +kernel)
set_option maxRecDepth 20000 in
theorem e_lay2 : ∀ w ∈ u_ws RX1 TX1 16, w ∈ e_tb := e_mem_pos [644, 646, 648, 650, 652, 654, 656, 658, 660, 662, 664, 666, 668, 670, 672, 674] (by decide +kernel) (by decide +kernel)
set_option maxRecDepth 20000 in
theorem e_lay3 : ∀ w ∈ u_ws RX2 TX2 8, w ∈ e_tb := e_mem_pos [840, 842, 844, 846, 848, 850, 852, 854] (by decide +kernel) (by decide +kernel)
set_option maxRecDepth 20000 in
theorem e_lay4 : ∀ w ∈ u_ws RX3 TX3 4, w ∈ e_tb := e_mem_pos [225, 227, 229, 231] (by decide +kernel) (by decide +kernel)
set_option maxRecDepth 20000 in
theorem e_lay5 : ∀ w ∈ u_ws RX4 TX4 5, w ∈ e_tb := e_mem_pos [159, 161, 163, 165, 167] (by decide +kernel) (by decide +kernel)
set_option maxRecDepth 20000 in
theorem e_lay6 : ∀ w ∈ u_ws RX5 TX5 7, w ∈ e_tb := e_mem_pos [249, 251, 253, 255, 257, 259, 261] (by decide +kernel) (by decide +kernel)
set_option maxRecDepth 20000 in
theorem e_lay7 : ∀ w ∈ u_ws RX6 TX6 10, w ∈ e_tb := e_mem_pos [472, 474, 476, 478, 480, 482, 484, 486, 488, 490] (by decide +kernel) (by decide +kernel)
set_option maxRecDepth 20000 in
theorem e_lay8 : ∀ w ∈ u_ws RX7 TX7 3, w ∈ e_tb := e_mem_pos [176, 178, 180] (by decide +kernel) (by decide +kernel)
set_option maxRecDepth 20000 in
theorem e_lay9 : ∀ w ∈ u_ws RX8 TX8 6, w ∈ e_tb := e_mem_pos [402, 404, 406, 408, 410, 412] (by decide +kernel) (by decide +kernel)
set_option maxRecDepth 20000 in
theorem e_lay10 : ∀ w ∈ u_ws RX9 TX9 7, w ∈ e_tb := e_mem_pos [277, 279, 281, 283, 285, 287, 289] (by decide +kernel) (by decide +kernel)
set_option maxRecDepth 20000 in
theorem e_lay11 : ∀ w ∈ u_ws RX10 TX10 5, w ∈ e_tb := e_mem_pos [367, 369, 371, 373, 375] (by decide +kernel) (by decide +kernel)
set_option maxRecDepth 20000 in
theorem e_lay12 : ∀ w ∈ u_ws RX11 TX11 12, w ∈ e_tb := e_mem_pos [304, 306, 308, 310, 312, 314, 316, 318, 320, 322, 324, 326] (by decide +kernel) (by decide +kernel)
set_option maxRecDepth 20000 in
theorem e_lay13 : ∀ w ∈ u_ws RX12 TX12 102, w ∈ e_tb := e_mem_pos [1391, 1393, 1395, 1397, 1399, 1401, 1403, 1405, 1407, 1409, 1411, 1413, 1415, 1417, 1419, 1421, 1423, 1425, 1427, 1429, 1431, 1433, 1435, 1437, 1439, 1441, 1443, 1445, 1447, 1449, 1451, 1453, 1455, 1457, 1459, 1461, 1463, 1465, 1467, 1469, 1471, 1473, 1475, 1477, 1479, 1481, 1483, 1485, 1487, 1489, 1491, 1493, 1495, 1497, 1499, 1501, 1503, 1505, 1507, 1509, 1511, 1513, 1515, 1517, 1519, 1521, 1523, 1525, 1527, 1529, 1531, 1533, 1535, 1537, 1539, 1541, 1543, 1545, 1547, 1549, 1551, 1553, 1555, 1557, 1559, 1561, 1563, 1565, 1567, 1569, 1571, 1573, 1575, 1577, 1579, 1581, 1583, 1585, 1587, 1589, 1591, 1593] (by decide +kernel) (by decide +kernel)
def e_inp : List (Nat × Nat) := [(186, 106), (583, 119), (577, 118), (818, 122), (212, 107), (141, 103), (235, 108), (443, 114), (133, 102), (387, 112), (265, 109), (350, 111), (125, 101), (1284, 110)]
def e_inc (ci : Nat) : Bool := match vwCl[ci]?, e_inp[ci]? with
  | some r, some x => decide (lw_tbl[x.1]? = some (.instantiable r.1 r.2.2)) && goodWord (.instantiable r.1 r.2.2) && decide (lw_tbl[x.2]? = some (.initialized r.1)) && goodWord (.initialized r.1)
  | _, _ => false
set_option maxRecDepth 20000 in
theorem e_inc_ok : (List.range 14).all e_inc = true := by decide +kernel
theorem e_cls_in {ci : Nat} {r : vw_C} (h : vwCl[ci]? = some r) : Cond.instantiable r.1 r.2.2 ∈ e_tb ∧ Cond.initialized r.1 ∈ e_tb := by
  have hl : ci < 14 := (List.getElem?_eq_some_iff.mp h).1
  have hx := List.all_eq_true.mp e_inc_ok ci (List.mem_range.mpr hl)
  unfold e_inc at hx
  rw [h] at hx
  split at hx
  · rename_i r' x e1 e2
    cases e1
    simp only [Bool.and_eq_true, decide_eq_true_eq] at hx
    exact ⟨e_tb_of hx.1.1.1 hx.1.1.2, e_tb_of hx.1.2 hx.2⟩
  · cases hx
theorem e_cls {ci : Nat} {r : vw_C} (h : vwCl[ci]? = some r) : (∀ w ∈ u_ws r.1 r.2.1 r.2.2, w ∈ e_tb) ∧ (∃ ty : Nat → FieldType, ∀ j, j < r.2.2 → parseFieldDescriptor (r.2.1 j).2.2.1 = some (ty j)) ∧ ∀ a, a < r.2.2 → ∀ b, b < r.2.2 → a ≠ b → (r.2.1 a).2.1 ≠ (r.2.1 b).2.1 := by
  have hl : ci < 14 := (List.getElem?_eq_some_iff.mp h).1
  match ci, hl, h with
  | 0, _, h => cases h; exact ⟨e_lay0, ⟨tyJx4a65c, tyJx4a65c_ok⟩, nmJx4a65c⟩
  | 1, _, h => cases h; exact ⟨e_lay1, ⟨tyX0, tyX0_ok⟩, nmX0⟩
  | 2, _, h => cases h; exact ⟨e_lay2, ⟨tyX1, tyX1_ok⟩, nmX1⟩
  | 3, _, h => cases h; exact ⟨e_lay3, ⟨tyX2, tyX2_ok⟩, nmX2⟩
  | 4, _, h => cases h; exact ⟨e_lay4, ⟨tyX3, tyX3_ok⟩, nmX3⟩
  | 5, _, h => cases h; exact ⟨e_lay5, ⟨tyX4, tyX4_ok⟩, nmX4⟩
  | 6, _, h => cases h; exact ⟨e_lay6, ⟨tyX5, tyX5_ok⟩, nmX5⟩
  | 7, _, h => cases h; exact ⟨e_lay7, ⟨tyX6, tyX6_ok⟩, nmX6⟩
  | 8, _, h => cases h; exact ⟨e_lay8, ⟨tyX7, tyX7_ok⟩, nmX7⟩
  | 9, _, h => cases h; exact ⟨e_lay9, ⟨tyX8, tyX8_ok⟩, nmX8⟩
  | 10, _, h => cases h; exact ⟨e_lay10, ⟨tyX9, tyX9_ok⟩, nmX9⟩
  | 11, _, h => cases h; exact ⟨e_lay11, ⟨tyX10, tyX10_ok⟩, nmX10⟩
  | 12, _, h => cases h; exact ⟨e_lay12, ⟨tyX11, tyX11_ok⟩, nmX11⟩
  | 13, _, h => cases h; exact ⟨e_lay13, ⟨tyX12, tyX12_ok⟩, nmX12⟩
def e_FTc (e : Nat × Nat × Nat × Nat × Nat × Nat) : Bool := match vwCl[e.2.2.1]? with
  | some r => decide (e.2.2.2.1 < r.2.2) && decide (lw_tbl[e.2.2.2.2.2]? = some (.fieldLink (e_cn e.1) e.2.1 (r.2.1 e.2.2.2.1).1 (r.2.1 e.2.2.2.1).2.1 (r.2.1 e.2.2.2.1).2.2.1)) && goodWord (.fieldLink (e_cn e.1) e.2.1 (r.2.1 e.2.2.2.1).1 (r.2.1 e.2.2.2.1).2.1 (r.2.1 e.2.2.2.1).2.2.1) &&
      (match parseFieldDescriptor (r.2.1 e.2.2.2.1).2.2.1 with
        | some .int => e.2.2.2.2.1 == 0
        | some .boolean => e.2.2.2.2.1 == 1
        | some (.object _) => e.2.2.2.2.1 == 2
        | some (.array _) => e.2.2.2.2.1 == 2
        | _ => false)
  | none => false
set_option maxRecDepth 20000 in
theorem e_FTc_ok : e_FTl.all e_FTc = true := by decide +kernel
theorem e_find {α : Type} {l : List α} {p : α → Bool} {x : α} (h : l.find? p = some x) : x ∈ l ∧ p x = true := ⟨List.mem_of_find?_eq_some h, List.find?_some h⟩
/-- what the table of fields says -/
theorem e_FT_ok {o x ci f tk : Nat} (h : e_FT o x = some (ci, f, tk)) : ∃ r : vw_C, vwCl[ci]? = some r ∧ f < r.2.2 ∧ Cond.fieldLink (e_cn o) x (r.2.1 f).1 (r.2.1 f).2.1 (r.2.1 f).2.2.1 ∈ e_tb ∧
    ∃ ty : FieldType, parseFieldDescriptor (r.2.1 f).2.2.1 = some ty ∧ ((ty = .int ∧ tk = 0) ∨ (ty = .boolean ∧ tk = 1) ∨ (((∃ C, ty = .object C) ∨ ∃ t, ty = .array t) ∧ tk = 2)) := by
  unfold e_FT at h
  cases hf : e_FTl.find? (fun e => e.1 == o && e.2.1 == x) with
  | none => rw [hf] at h; cases h
  | some e =>
    rw [hf] at h
    obtain ⟨hm, hp⟩ := e_find hf
    obtain ⟨e1, e2, e3, e4, e5, e6⟩ := e
    simp only [Option.map_some, Option.some.injEq, Prod.mk.injEq] at h
    obtain ⟨rfl, rfl, rfl⟩ := h
    simp only [Bool.and_eq_true, beq_iff_eq] at hp
    obtain ⟨rfl, rfl⟩ := hp
    have hc := List.all_eq_true.mp e_FTc_ok _ hm
    unfold e_FTc at hc
    split at hc
    · rename_i r hr
      simp only [Bool.and_eq_true, decide_eq_true_eq] at hc
      obtain ⟨⟨⟨c1, c2⟩, c3⟩, c4⟩ := hc
      refine ⟨r, hr, c1, e_tb_of c2 c3, ?_⟩
      split at c4
      · rename_i hz; exact ⟨_, hz, Or.inl ⟨rfl, by simpa using c4⟩⟩
      · rename_i hz; exact ⟨_, hz, Or.inr (Or.inl ⟨rfl, by simpa using c4⟩)⟩
      · rename_i hz; exact ⟨_, hz, Or.inr (Or.inr ⟨Or.inl ⟨_, rfl⟩, by simpa using c4⟩)⟩
      · rename_i hz; exact ⟨_, hz, Or.inr (Or.inr ⟨Or.inr ⟨_, rfl⟩, by simpa using c4⟩)⟩
      · cases c4
    · cases hc
def e_CTc (e : Nat × Nat × Nat × Nat) : Bool := match vwCl[e.2.2.1]? with
  | some r => decide (lw_tbl[e.2.2.2]? = some (.classLink (e_cn e.1) e.2.1 r.1)) && goodWord (.classLink (e_cn e.1) e.2.1 r.1)
  | none => false
set_option maxRecDepth 20000 in
theorem e_CTc_ok : e_CTl.all e_CTc = true := by decide +kernel
theorem e_CT_ok {o x ci : Nat} (h : e_CT o x = some ci) : ∃ r : vw_C, vwCl[ci]? = some r ∧ Cond.classLink (e_cn o) x r.1 ∈ e_tb := by
  unfold e_CT at h
  cases hf : e_CTl.find? (fun e => e.1 == o && e.2.1 == x) with
  | none => rw [hf] at h; cases h
  | some e =>
    rw [hf] at h
    obtain ⟨hm, hp⟩ := e_find hf
    obtain ⟨e1, e2, e3, e4⟩ := e
    simp only [Option.map_some, Option.some.injEq] at h
    subst h
    simp only [Bool.and_eq_true, beq_iff_eq] at hp
    obtain ⟨rfl, rfl⟩ := hp
    have hc := List.all_eq_true.mp e_CTc_ok _ hm
    unfold e_CTc at hc
    split at hc
    · rename_i r hr
      simp only [Bool.and_eq_true, decide_eq_true_eq] at hc
      exact ⟨r, hr, e_tb_of hc.1 hc.2⟩
    · cases hc
set_option maxRecDepth 20000 in
theorem e_ITc_ok : e_ITl.all (fun e => decide (lw_tbl[e.2.2.2]? = some (.constant (e_cn e.1) e.2.1 e.2.2.1)) && goodWord (.constant (e_cn e.1) e.2.1 e.2.2.1)) = true := by decide +kernel
theorem e_IT_ok {o x : Nat} {v : Int32} (h : e_IT o x = some v) : Cond.constant (e_cn o) x v ∈ e_tb := by
  unfold e_IT at h
  cases hf : e_ITl.find? (fun e => e.1 == o && e.2.1 == x) with
  | none => rw [hf] at h; cases h
  | some e =>
    rw [hf] at h
    obtain ⟨hm, hp⟩ := e_find hf
    obtain ⟨e1, e2, e3, e4⟩ := e
    simp only [Option.map_some, Option.some.injEq] at h
    subst h
    simp only [Bool.and_eq_true, beq_iff_eq] at hp
    obtain ⟨rfl, rfl⟩ := hp
    have hc := List.all_eq_true.mp e_ITc_ok _ hm
    simp only [Bool.and_eq_true, decide_eq_true_eq] at hc
    exact e_tb_of hc.1 hc.2
set_option maxRecDepth 20000 in
theorem e_LTc_ok : e_LTl.all (fun e => decide (lw_tbl[e.2.2.2]? = some (.constantLong (e_cn e.1) e.2.1 e.2.2.1)) && goodWord (.constantLong (e_cn e.1) e.2.1 e.2.2.1)) = true := by decide +kernel
theorem e_LT_ok {o x : Nat} {v : Int64} (h : e_LT o x = some v) : Cond.constantLong (e_cn o) x v ∈ e_tb := by
  unfold e_LT at h
  cases hf : e_LTl.find? (fun e => e.1 == o && e.2.1 == x) with
  | none => rw [hf] at h; cases h
  | some e =>
    rw [hf] at h
    obtain ⟨hm, hp⟩ := e_find hf
    obtain ⟨e1, e2, e3, e4⟩ := e
    simp only [Option.map_some, Option.some.injEq] at h
    subst h
    simp only [Bool.and_eq_true, beq_iff_eq] at hp
    obtain ⟨rfl, rfl⟩ := hp
    have hc := List.all_eq_true.mp e_LTc_ok _ hm
    simp only [Bool.and_eq_true, decide_eq_true_eq] at hc
    exact e_tb_of hc.1 hc.2
theorem e_t0 {w : Cond} (h : w ∈ tables_1) : w ∈ lw_tbl := List.mem_append_right _ h
theorem e_t1 {w : Cond} (h : w ∈ tables_1_1) : w ∈ lw_tbl := e_t0 (List.mem_append_left _ h)
theorem e_t2 {w : Cond} (h : w ∈ tables_1_2) : w ∈ lw_tbl := e_t0 (List.mem_append_right _ (List.mem_append_left _ h))
theorem e_t3 {w : Cond} (h : w ∈ tables_1_3) : w ∈ lw_tbl := e_t0 (List.mem_append_right _ (List.mem_append_right _ (List.mem_append_left _ h)))
theorem e_t4 {w : Cond} (h : w ∈ tables_1_4) : w ∈ lw_tbl := e_t0 (List.mem_append_right _ (List.mem_append_right _ (List.mem_append_right _ (List.mem_append_left _ h))))
theorem e_t5 {w : Cond} (h : w ∈ tables_1_5) : w ∈ lw_tbl := e_t0 (List.mem_append_right _ (List.mem_append_right _ (List.mem_append_right _ (List.mem_append_right _ (List.mem_append_left _ h)))))
theorem e_t6 {w : Cond} (h : w ∈ tables_1_6) : w ∈ lw_tbl := e_t0 (List.mem_append_right _ (List.mem_append_right _ (List.mem_append_right _ (List.mem_append_right _ (List.mem_append_right _ (List.mem_append_left _ h))))))
theorem e_t7 {w : Cond} (h : w ∈ tables_1_7) : w ∈ lw_tbl := e_t0 (List.mem_append_right _ (List.mem_append_right _ (List.mem_append_right _ (List.mem_append_right _ (List.mem_append_right _ (List.mem_append_right _ (List.mem_append_left _ h)))))))
theorem e_t8 {w : Cond} (h : w ∈ tables_1_8) : w ∈ lw_tbl := e_t0 (List.mem_append_right _ (List.mem_append_right _ (List.mem_append_right _ (List.mem_append_right _ (List.mem_append_right _ (List.mem_append_right _ (List.mem_append_right _ (h))))))))
set_option maxRecDepth 20000 in
theorem e_cm0 : Cond.code yX0_init cX0_init 1 none ∈ lw_tbl ∧ plainName yX0_init.cls = true := ⟨e_t3 (List.mem_of_getElem? (i := 6) rfl), by decide +kernel⟩
set_option maxRecDepth 20000 in
theorem e_cm1 : Cond.code yX0_set cX0_set 5 none ∈ lw_tbl ∧ plainName yX0_set.cls = true := ⟨e_t5 (List.mem_of_getElem? (i := 53) rfl), by decide +kernel⟩
set_option maxRecDepth 20000 in
theorem e_cm2 : Cond.code yX0_nextLeg cX0_nextLeg 1 none ∈ lw_tbl ∧ plainName yX0_nextLeg.cls = true := ⟨e_t4 (List.mem_of_getElem? (i := 43) rfl), by decide +kernel⟩
set_option maxRecDepth 20000 in
theorem e_cm3 : Cond.code yX0_legKind cX0_legKind 2 (some .int) ∈ lw_tbl ∧ plainName yX0_legKind.cls = true := ⟨e_t3 (List.mem_of_getElem? (i := 232) rfl), by decide +kernel⟩
set_option maxRecDepth 20000 in
theorem e_cm4 : Cond.code yX1_init cX1_init 4 none ∈ lw_tbl ∧ plainName yX1_init.cls = true := ⟨e_t3 (List.mem_of_getElem? (i := 0) rfl), by decide +kernel⟩
set_option maxRecDepth 20000 in
theorem e_cm5 : Cond.code yX1_isUnderWay cX1_isUnderWay 1 (some .boolean) ∈ lw_tbl ∧ plainName yX1_isUnderWay.cls = true := ⟨e_t5 (List.mem_of_getElem? (i := 34) rfl), by decide +kernel⟩
set_option maxRecDepth 20000 in
theorem e_cm6 : Cond.code yX1_markLevel cX1_markLevel 1 none ∈ lw_tbl ∧ plainName yX1_markLevel.cls = true := ⟨e_t3 (List.mem_of_getElem? (i := 128) rfl), by decide +kernel⟩
set_option maxRecDepth 20000 in
theorem e_cm7 : Cond.code yX1_levelMark cX1_levelMark 1 (some .int) ∈ lw_tbl ∧ plainName yX1_levelMark.cls = true := ⟨e_t3 (List.mem_of_getElem? (i := 151) rfl), by decide +kernel⟩
set_option maxRecDepth 20000 in
theorem e_cm8 : Cond.code yX1_outcome cX1_outcome 1 (some .int) ∈ lw_tbl ∧ plainName yX1_outcome.cls = true := ⟨e_t5 (List.mem_of_getElem? (i := 49) rfl), by decide +kernel⟩
set_option maxRecDepth 20000 in
theorem e_cm9 : Cond.code yX1_goesAheadOf cX1_goesAheadOf 5 (some .boolean) ∈ lw_tbl ∧ plainName yX1_goesAheadOf.cls = true := ⟨e_t4 (List.mem_of_getElem? (i := 206) rfl), by decide +kernel⟩
set_option maxRecDepth 20000 in
theorem e_cm10 : Cond.code yX1_keyBy cX1_keyBy 2 (some .int) ∈ lw_tbl ∧ plainName yX1_keyBy.cls = true := ⟨e_t4 (List.mem_of_getElem? (i := 210) rfl), by decide +kernel⟩
set_option maxRecDepth 20000 in
theorem e_cm11 : Cond.code yX2_init cX2_init 6 none ∈ lw_tbl ∧ plainName yX2_init.cls = true := ⟨e_t4 (List.mem_of_getElem? (i := 5) rfl), by decide +kernel⟩
set_option maxRecDepth 20000 in
theorem e_cm12 : Cond.code yX2_sameAs cX2_sameAs 2 (some .boolean) ∈ lw_tbl ∧ plainName yX2_sameAs.cls = true := ⟨e_t4 (List.mem_of_getElem? (i := 51) rfl), by decide +kernel⟩
set_option maxRecDepth 20000 in
theorem e_cm13 : Cond.code yX2_conflicts cX2_conflicts 3 (some .boolean) ∈ lw_tbl ∧ plainName yX2_conflicts.cls = true := ⟨e_t4 (List.mem_of_getElem? (i := 59) rfl), by decide +kernel⟩
set_option maxRecDepth 20000 in
theorem e_cm14 : Cond.code yX2_hindersS cX2_hindersS 1 (some .boolean) ∈ lw_tbl ∧ plainName yX2_hindersS.cls = true := ⟨e_t4 (List.mem_of_getElem? (i := 69) rfl), by decide +kernel⟩
set_option maxRecDepth 20000 in
theorem e_cm15 : Cond.code yX2_tell cX2_tell 2 (some .int) ∈ lw_tbl ∧ plainName yX2_tell.cls = true := ⟨e_t5 (List.mem_of_getElem? (i := 73) rfl), by decide +kernel⟩
set_option maxRecDepth 20000 in
theorem e_cm16 : Cond.code yX3_init cX3_init 1 none ∈ lw_tbl ∧ plainName yX3_init.cls = true := ⟨e_t1 (List.mem_of_getElem? (i := 115) rfl), by decide +kernel⟩
set_option maxRecDepth 20000 in
theorem e_cm17 : Cond.code yX3_size cX3_size 1 (some .int) ∈ lw_tbl ∧ plainName yX3_size.cls = true := ⟨e_t3 (List.mem_of_getElem? (i := 100) rfl), by decide +kernel⟩
set_option maxRecDepth 20000 in
theorem e_cm18 : Cond.code yX3_at cX3_at 2 (some (.object "HoldHouse$Row")) ∈ lw_tbl ∧ plainName yX3_at.cls = true := ⟨e_t3 (List.mem_of_getElem? (i := 159) rfl), by decide +kernel⟩
set_option maxRecDepth 20000 in
theorem e_cm19 : Cond.code yX3_append cX3_append 2 none ∈ lw_tbl ∧ plainName yX3_append.cls = true := ⟨e_t2 (List.mem_of_getElem? (i := 156) rfl), by decide +kernel⟩
set_option maxRecDepth 20000 in
theorem e_cm20 : Cond.code yX3_removeLast cX3_removeLast 1 none ∈ lw_tbl ∧ plainName yX3_removeLast.cls = true := ⟨e_t5 (List.mem_of_getElem? (i := 115) rfl), by decide +kernel⟩
theorem e_cmc0 : ∀ q ∈ e_ml0, Cond.code q.1 q.2.1 q.2.2.1 q.2.2.2 ∈ lw_tbl ∧ plainName q.1.cls = true := List.forall_mem_cons.mpr ⟨e_cm0, List.forall_mem_cons.mpr ⟨e_cm1, List.forall_mem_cons.mpr ⟨e_cm2, List.forall_mem_cons.mpr ⟨e_cm3, List.forall_mem_cons.mpr ⟨e_cm4, List.forall_mem_cons.mpr ⟨e_cm5, List.forall_mem_cons.mpr ⟨e_cm6, List.forall_mem_cons.mpr ⟨e_cm7, List.forall_mem_cons.mpr ⟨e_cm8, List.forall_mem_cons.mpr ⟨e_cm9, List.forall_mem_cons.mpr ⟨e_cm10, List.forall_mem_cons.mpr ⟨e_cm11, List.forall_mem_cons.mpr ⟨e_cm12, List.forall_mem_cons.mpr ⟨e_cm13, List.forall_mem_cons.mpr ⟨e_cm14, List.forall_mem_cons.mpr ⟨e_cm15, List.forall_mem_cons.mpr ⟨e_cm16, List.forall_mem_cons.mpr ⟨e_cm17, List.forall_mem_cons.mpr ⟨e_cm18, List.forall_mem_cons.mpr ⟨e_cm19, List.forall_mem_cons.mpr ⟨e_cm20, fun _ h => absurd h List.not_mem_nil⟩⟩⟩⟩⟩⟩⟩⟩⟩⟩⟩⟩⟩⟩⟩⟩⟩⟩⟩⟩⟩
set_option maxRecDepth 20000 in
theorem e_cm21 : Cond.code yX3_forceAll cX3_forceAll 1 none ∈ lw_tbl ∧ plainName yX3_forceAll.cls = true := ⟨e_t5 (List.mem_of_getElem? (i := 12) rfl), by decide +kernel⟩
set_option maxRecDepth 20000 in
theorem e_cm22 : Cond.code yX3_forceByGroup cX3_forceByGroup 1 none ∈ lw_tbl ∧ plainName yX3_forceByGroup.cls = true := ⟨e_t5 (List.mem_of_getElem? (i := 8) rfl), by decide +kernel⟩
set_option maxRecDepth 20000 in
theorem e_cm23 : Cond.code yX4_init cX4_init 1 none ∈ lw_tbl ∧ plainName yX4_init.cls = true := ⟨e_t1 (List.mem_of_getElem? (i := 44) rfl), by decide +kernel⟩
set_option maxRecDepth 20000 in
theorem e_cm24 : Cond.code yX4_clear cX4_clear 1 none ∈ lw_tbl ∧ plainName yX4_clear.cls = true := ⟨e_t4 (List.mem_of_getElem? (i := 91) rfl), by decide +kernel⟩
set_option maxRecDepth 20000 in
theorem e_cm25 : Cond.code yX4_body cX4_body 2 none ∈ lw_tbl ∧ plainName yX4_body.cls = true := ⟨e_t4 (List.mem_of_getElem? (i := 104) rfl), by decide +kernel⟩
set_option maxRecDepth 20000 in
theorem e_cm26 : Cond.code yX4_bodyAt cX4_bodyAt 2 (some .int) ∈ lw_tbl ∧ plainName yX4_bodyAt.cls = true := ⟨e_t5 (List.mem_of_getElem? (i := 210) rfl), by decide +kernel⟩
set_option maxRecDepth 20000 in
theorem e_cm27 : Cond.code yX5_init cX5_init 1 none ∈ lw_tbl ∧ plainName yX5_init.cls = true := ⟨e_t1 (List.mem_of_getElem? (i := 138) rfl), by decide +kernel⟩
set_option maxRecDepth 20000 in
theorem e_cm28 : Cond.code yX5_forget cX5_forget 1 none ∈ lw_tbl ∧ plainName yX5_forget.cls = true := ⟨e_t5 (List.mem_of_getElem? (i := 121) rfl), by decide +kernel⟩
set_option maxRecDepth 20000 in
theorem e_cm29 : Cond.code yX5_member cX5_member 2 (some .int) ∈ lw_tbl ∧ plainName yX5_member.cls = true := ⟨e_t4 (List.mem_of_getElem? (i := 202) rfl), by decide +kernel⟩
set_option maxRecDepth 20000 in
theorem e_cm30 : Cond.code yX5_draw cX5_draw 4 none ∈ lw_tbl ∧ plainName yX5_draw.cls = true := ⟨e_t4 (List.mem_of_getElem? (i := 186) rfl), by decide +kernel⟩
set_option maxRecDepth 20000 in
theorem e_cm31 : Cond.code yX5_find cX5_find 7 (some .boolean) ∈ lw_tbl ∧ plainName yX5_find.cls = true := ⟨e_t4 (List.mem_of_getElem? (i := 190) rfl), by decide +kernel⟩
set_option maxRecDepth 20000 in
theorem e_cm32 : Cond.code yX5_writeDown cX5_writeDown 4 none ∈ lw_tbl ∧ plainName yX5_writeDown.cls = true := ⟨e_t4 (List.mem_of_getElem? (i := 194) rfl), by decide +kernel⟩
set_option maxRecDepth 20000 in
theorem e_cm33 : Cond.code yX6_init cX6_init 8 none ∈ lw_tbl ∧ plainName yX6_init.cls = true := ⟨e_t2 (List.mem_of_getElem? (i := 106) rfl), by decide +kernel⟩
set_option maxRecDepth 20000 in
theorem e_cm34 : Cond.code yX6_contrary cX6_contrary 3 (some (.object "HoldHouse$Row")) ∈ lw_tbl ∧ plainName yX6_contrary.cls = true := ⟨e_t3 (List.mem_of_getElem? (i := 186) rfl), by decide +kernel⟩
set_option maxRecDepth 20000 in
theorem e_cm35 : Cond.code yX6_isActOf cX6_isActOf 2 (some .boolean) ∈ lw_tbl ∧ plainName yX6_isActOf.cls = true := ⟨e_t3 (List.mem_of_getElem? (i := 165) rfl), by decide +kernel⟩
set_option maxRecDepth 20000 in
theorem e_cm36 : Cond.code yX6_written cX6_written 1 (some .long) ∈ lw_tbl ∧ plainName yX6_written.cls = true := ⟨e_t5 (List.mem_of_getElem? (i := 24) rfl), by decide +kernel⟩
set_option maxRecDepth 20000 in
theorem e_cm37 : Cond.code yX6_tell cX6_tell 2 (some .int) ∈ lw_tbl ∧ plainName yX6_tell.cls = true := ⟨e_t5 (List.mem_of_getElem? (i := 147) rfl), by decide +kernel⟩
set_option maxRecDepth 20000 in
theorem e_cm38 : Cond.code yX7_init cX7_init 1 none ∈ lw_tbl ∧ plainName yX7_init.cls = true := ⟨e_t1 (List.mem_of_getElem? (i := 36) rfl), by decide +kernel⟩
set_option maxRecDepth 20000 in
theorem e_cm39 : Cond.code yX7_thing cX7_thing 2 (some (.object "HoldHouse$Thing")) ∈ lw_tbl ∧ plainName yX7_thing.cls = true := ⟨e_t1 (List.mem_of_getElem? (i := 236) rfl), by decide +kernel⟩
set_option maxRecDepth 20000 in
theorem e_cm40 : Cond.code yX7_put cX7_put 5 none ∈ lw_tbl ∧ plainName yX7_put.cls = true := ⟨e_t2 (List.mem_of_getElem? (i := 8) rfl), by decide +kernel⟩
set_option maxRecDepth 20000 in
theorem e_cm41 : Cond.code yX7_folderOf cX7_folderOf 6 (some .int) ∈ lw_tbl ∧ plainName yX7_folderOf.cls = true := ⟨e_t4 (List.mem_of_getElem? (i := 2) rfl), by decide +kernel⟩
theorem e_cmc1 : ∀ q ∈ e_ml1, Cond.code q.1 q.2.1 q.2.2.1 q.2.2.2 ∈ lw_tbl ∧ plainName q.1.cls = true := List.forall_mem_cons.mpr ⟨e_cm21, List.forall_mem_cons.mpr ⟨e_cm22, List.forall_mem_cons.mpr ⟨e_cm23, List.forall_mem_cons.mpr ⟨e_cm24, List.forall_mem_cons.mpr ⟨e_cm25, List.forall_mem_cons.mpr ⟨e_cm26, List.forall_mem_cons.mpr ⟨e_cm27, List.forall_mem_cons.mpr ⟨e_cm28, List.forall_mem_cons.mpr ⟨e_cm29, List.forall_mem_cons.mpr ⟨e_cm30, List.forall_mem_cons.mpr ⟨e_cm31, List.forall_mem_cons.mpr ⟨e_cm32, List.forall_mem_cons.mpr ⟨e_cm33, List.forall_mem_cons.mpr ⟨e_cm34, List.forall_mem_cons.mpr ⟨e_cm35, List.forall_mem_cons.mpr ⟨e_cm36, List.forall_mem_cons.mpr ⟨e_cm37, List.forall_mem_cons.mpr ⟨e_cm38, List.forall_mem_cons.mpr ⟨e_cm39, List.forall_mem_cons.mpr ⟨e_cm40, List.forall_mem_cons.mpr ⟨e_cm41, fun _ h => absurd h List.not_mem_nil⟩⟩⟩⟩⟩⟩⟩⟩⟩⟩⟩⟩⟩⟩⟩⟩⟩⟩⟩⟩⟩
set_option maxRecDepth 20000 in
theorem e_cm42 : Cond.code yX7_numberIn cX7_numberIn 3 (some .int) ∈ lw_tbl ∧ plainName yX7_numberIn.cls = true := ⟨e_t3 (List.mem_of_getElem? (i := 228) rfl), by decide +kernel⟩
set_option maxRecDepth 20000 in
theorem e_cm43 : Cond.code yX7_perform cX7_perform 6 none ∈ lw_tbl ∧ plainName yX7_perform.cls = true := ⟨e_t4 (List.mem_of_getElem? (i := 87) rfl), by decide +kernel⟩
set_option maxRecDepth 20000 in
theorem e_cm44 : Cond.code yX7_bump cX7_bump 4 none ∈ lw_tbl ∧ plainName yX7_bump.cls = true := ⟨e_t4 (List.mem_of_getElem? (i := 100) rfl), by decide +kernel⟩
set_option maxRecDepth 20000 in
theorem e_cm45 : Cond.code yX7_move cX7_move 5 none ∈ lw_tbl ∧ plainName yX7_move.cls = true := ⟨e_t4 (List.mem_of_getElem? (i := 114) rfl), by decide +kernel⟩
set_option maxRecDepth 20000 in
theorem e_cm46 : Cond.code yX7_sumBelow cX7_sumBelow 5 none ∈ lw_tbl ∧ plainName yX7_sumBelow.cls = true := ⟨e_t4 (List.mem_of_getElem? (i := 127) rfl), by decide +kernel⟩
set_option maxRecDepth 20000 in
theorem e_cm47 : Cond.code yX7_liesIn cX7_liesIn 5 (some .boolean) ∈ lw_tbl ∧ plainName yX7_liesIn.cls = true := ⟨e_t4 (List.mem_of_getElem? (i := 132) rfl), by decide +kernel⟩
set_option maxRecDepth 20000 in
theorem e_cm48 : Cond.code yX7_outcome cX7_outcome 5 (some .long) ∈ lw_tbl ∧ plainName yX7_outcome.cls = true := ⟨e_t5 (List.mem_of_getElem? (i := 187) rfl), by decide +kernel⟩
set_option maxRecDepth 20000 in
theorem e_cm49 : Cond.code yX7_revert cX7_revert 4 none ∈ lw_tbl ∧ plainName yX7_revert.cls = true := ⟨e_t3 (List.mem_of_getElem? (i := 169) rfl), by decide +kernel⟩
set_option maxRecDepth 20000 in
theorem e_cm50 : Cond.code yX7_sameAs cX7_sameAs 5 (some .boolean) ∈ lw_tbl ∧ plainName yX7_sameAs.cls = true := ⟨e_t5 (List.mem_of_getElem? (i := 201) rfl), by decide +kernel⟩
set_option maxRecDepth 20000 in
theorem e_cm51 : Cond.code yX7_copyFrom cX7_copyFrom 5 none ∈ lw_tbl ∧ plainName yX7_copyFrom.cls = true := ⟨e_t5 (List.mem_of_getElem? (i := 129) rfl), by decide +kernel⟩
set_option maxRecDepth 20000 in
theorem e_cm52 : Cond.code yX8_init cX8_init 1 none ∈ lw_tbl ∧ plainName yX8_init.cls = true := ⟨e_t2 (List.mem_of_getElem? (i := 50) rfl), by decide +kernel⟩
set_option maxRecDepth 20000 in
theorem e_cm53 : Cond.code yX8_reset cX8_reset 3 none ∈ lw_tbl ∧ plainName yX8_reset.cls = true := ⟨e_t2 (List.mem_of_getElem? (i := 90) rfl), by decide +kernel⟩
set_option maxRecDepth 20000 in
theorem e_cm54 : Cond.code yX8_ask cX8_ask 4 (some .boolean) ∈ lw_tbl ∧ plainName yX8_ask.cls = true := ⟨e_t4 (List.mem_of_getElem? (i := 47) rfl), by decide +kernel⟩
set_option maxRecDepth 20000 in
theorem e_cm55 : Cond.code yX8_blockers cX8_blockers 5 (some .int) ∈ lw_tbl ∧ plainName yX8_blockers.cls = true := ⟨e_t4 (List.mem_of_getElem? (i := 55) rfl), by decide +kernel⟩
set_option maxRecDepth 20000 in
theorem e_cm56 : Cond.code yX8_placeOf cX8_placeOf 3 (some .int) ∈ lw_tbl ∧ plainName yX8_placeOf.cls = true := ⟨e_t4 (List.mem_of_getElem? (i := 181) rfl), by decide +kernel⟩
set_option maxRecDepth 20000 in
theorem e_cm57 : Cond.code yX8_dropWait cX8_dropWait 3 none ∈ lw_tbl ∧ plainName yX8_dropWait.cls = true := ⟨e_t4 (List.mem_of_getElem? (i := 222) rfl), by decide +kernel⟩
set_option maxRecDepth 20000 in
theorem e_cm58 : Cond.code yX8_grantFirst cX8_grantFirst 3 (some (.object "HoldHouse$Lock")) ∈ lw_tbl ∧ plainName yX8_grantFirst.cls = true := ⟨e_t4 (List.mem_of_getElem? (i := 232) rfl), by decide +kernel⟩
set_option maxRecDepth 20000 in
theorem e_cm59 : Cond.code yX8_free cX8_free 6 none ∈ lw_tbl ∧ plainName yX8_free.cls = true := ⟨e_t3 (List.mem_of_getElem? (i := 196) rfl), by decide +kernel⟩
set_option maxRecDepth 20000 in
theorem e_cm60 : Cond.code yX8_lowerLevel cX8_lowerLevel 4 none ∈ lw_tbl ∧ plainName yX8_lowerLevel.cls = true := ⟨e_t3 (List.mem_of_getElem? (i := 140) rfl), by decide +kernel⟩
set_option maxRecDepth 20000 in
theorem e_cm61 : Cond.code yX8_locksOf cX8_locksOf 4 (some .int) ∈ lw_tbl ∧ plainName yX8_locksOf.cls = true := ⟨e_t5 (List.mem_of_getElem? (i := 65) rfl), by decide +kernel⟩
set_option maxRecDepth 20000 in
theorem e_cm62 : Cond.code yX8_keepVersion cX8_keepVersion 3 none ∈ lw_tbl ∧ plainName yX8_keepVersion.cls = true := ⟨e_t2 (List.mem_of_getElem? (i := 98) rfl), by decide +kernel⟩
theorem e_cmc2 : ∀ q ∈ e_ml2, Cond.code q.1 q.2.1 q.2.2.1 q.2.2.2 ∈ lw_tbl ∧ plainName q.1.cls = true := List.forall_mem_cons.mpr ⟨e_cm42, List.forall_mem_cons.mpr ⟨e_cm43, List.forall_mem_cons.mpr ⟨e_cm44, List.forall_mem_cons.mpr ⟨e_cm45, List.forall_mem_cons.mpr ⟨e_cm46, List.forall_mem_cons.mpr ⟨e_cm47, List.forall_mem_cons.mpr ⟨e_cm48, List.forall_mem_cons.mpr ⟨e_cm49, List.forall_mem_cons.mpr ⟨e_cm50, List.forall_mem_cons.mpr ⟨e_cm51, List.forall_mem_cons.mpr ⟨e_cm52, List.forall_mem_cons.mpr ⟨e_cm53, List.forall_mem_cons.mpr ⟨e_cm54, List.forall_mem_cons.mpr ⟨e_cm55, List.forall_mem_cons.mpr ⟨e_cm56, List.forall_mem_cons.mpr ⟨e_cm57, List.forall_mem_cons.mpr ⟨e_cm58, List.forall_mem_cons.mpr ⟨e_cm59, List.forall_mem_cons.mpr ⟨e_cm60, List.forall_mem_cons.mpr ⟨e_cm61, List.forall_mem_cons.mpr ⟨e_cm62, fun _ h => absurd h List.not_mem_nil⟩⟩⟩⟩⟩⟩⟩⟩⟩⟩⟩⟩⟩⟩⟩⟩⟩⟩⟩⟩⟩
set_option maxRecDepth 20000 in
theorem e_cm63 : Cond.code yX8_versionAt cX8_versionAt 3 (some .int) ∈ lw_tbl ∧ plainName yX8_versionAt.cls = true := ⟨e_t5 (List.mem_of_getElem? (i := 159) rfl), by decide +kernel⟩
set_option maxRecDepth 20000 in
theorem e_cm64 : Cond.code yX9_init cX9_init 1 none ∈ lw_tbl ∧ plainName yX9_init.cls = true := ⟨e_t1 (List.mem_of_getElem? (i := 168) rfl), by decide +kernel⟩
set_option maxRecDepth 20000 in
theorem e_cm65 : Cond.code yX10_init cX10_init 1 none ∈ lw_tbl ∧ plainName yX10_init.cls = true := ⟨e_t2 (List.mem_of_getElem? (i := 13) rfl), by decide +kernel⟩
set_option maxRecDepth 20000 in
theorem e_cm66 : Cond.code yX10_reset cX10_reset 5 none ∈ lw_tbl ∧ plainName yX10_reset.cls = true := ⟨e_t2 (List.mem_of_getElem? (i := 41) rfl), by decide +kernel⟩
set_option maxRecDepth 20000 in
theorem e_cm67 : Cond.code yX10_copyFrom cX10_copyFrom 2 none ∈ lw_tbl ∧ plainName yX10_copyFrom.cls = true := ⟨e_t5 (List.mem_of_getElem? (i := 134) rfl), by decide +kernel⟩
set_option maxRecDepth 20000 in
theorem e_cm68 : Cond.code yX10_becomeSmall cX10_becomeSmall 2 none ∈ lw_tbl ∧ plainName yX10_becomeSmall.cls = true := ⟨e_t5 (List.mem_of_getElem? (i := 183) rfl), by decide +kernel⟩
set_option maxRecDepth 20000 in
theorem e_cm69 : Cond.code yX10_hasKey cX10_hasKey 2 (some .boolean) ∈ lw_tbl ∧ plainName yX10_hasKey.cls = true := ⟨e_t2 (List.mem_of_getElem? (i := 86) rfl), by decide +kernel⟩
set_option maxRecDepth 20000 in
theorem e_cm70 : Cond.code yX10_queued cX10_queued 1 (some .int) ∈ lw_tbl ∧ plainName yX10_queued.cls = true := ⟨e_t2 (List.mem_of_getElem? (i := 82) rfl), by decide +kernel⟩
set_option maxRecDepth 20000 in
theorem e_cm71 : Cond.code yX10_summary cX10_summary 4 (some .int) ∈ lw_tbl ∧ plainName yX10_summary.cls = true := ⟨e_t2 (List.mem_of_getElem? (i := 78) rfl), by decide +kernel⟩
set_option maxRecDepth 20000 in
theorem e_cm72 : Cond.code yX10_sameAs cX10_sameAs 4 (some .boolean) ∈ lw_tbl ∧ plainName yX10_sameAs.cls = true := ⟨e_t5 (List.mem_of_getElem? (i := 193) rfl), by decide +kernel⟩
set_option maxRecDepth 20000 in
theorem e_cm73 : Cond.code yX10_run cX10_run 5 none ∈ lw_tbl ∧ plainName yX10_run.cls = true := ⟨e_t4 (List.mem_of_getElem? (i := 136) rfl), by decide +kernel⟩
set_option maxRecDepth 20000 in
theorem e_cm74 : Cond.code yX10_runOnMany cX10_runOnMany 5 none ∈ lw_tbl ∧ plainName yX10_runOnMany.cls = true := ⟨e_t4 (List.mem_of_getElem? (i := 152) rfl), by decide +kernel⟩
set_option maxRecDepth 20000 in
theorem e_cm75 : Cond.code yX10_pay cX10_pay 3 none ∈ lw_tbl ∧ plainName yX10_pay.cls = true := ⟨e_t4 (List.mem_of_getElem? (i := 123) rfl), by decide +kernel⟩
set_option maxRecDepth 20000 in
theorem e_cm76 : Cond.code yX10_draw cX10_draw 3 none ∈ lw_tbl ∧ plainName yX10_draw.cls = true := ⟨e_t4 (List.mem_of_getElem? (i := 118) rfl), by decide +kernel⟩
set_option maxRecDepth 20000 in
theorem e_cm77 : Cond.code yX10_add cX10_add 5 none ∈ lw_tbl ∧ plainName yX10_add.cls = true := ⟨e_t4 (List.mem_of_getElem? (i := 108) rfl), by decide +kernel⟩
set_option maxRecDepth 20000 in
theorem e_cm78 : Cond.code yX10_divide cX10_divide 3 none ∈ lw_tbl ∧ plainName yX10_divide.cls = true := ⟨e_t4 (List.mem_of_getElem? (i := 140) rfl), by decide +kernel⟩
set_option maxRecDepth 20000 in
theorem e_cm79 : Cond.code yX10_runOnSet cX10_runOnSet 6 none ∈ lw_tbl ∧ plainName yX10_runOnSet.cls = true := ⟨e_t4 (List.mem_of_getElem? (i := 156) rfl), by decide +kernel⟩
set_option maxRecDepth 20000 in
theorem e_cm80 : Cond.code yX10_runOnQueue cX10_runOnQueue 5 none ∈ lw_tbl ∧ plainName yX10_runOnQueue.cls = true := ⟨e_t4 (List.mem_of_getElem? (i := 160) rfl), by decide +kernel⟩
set_option maxRecDepth 20000 in
theorem e_cm81 : Cond.code yX10_sumOfFirst cX10_sumOfFirst 6 none ∈ lw_tbl ∧ plainName yX10_sumOfFirst.cls = true := ⟨e_t4 (List.mem_of_getElem? (i := 165) rfl), by decide +kernel⟩
set_option maxRecDepth 20000 in
theorem e_cm82 : Cond.code yX10_runOnMap cX10_runOnMap 6 none ∈ lw_tbl ∧ plainName yX10_runOnMap.cls = true := ⟨e_t4 (List.mem_of_getElem? (i := 169) rfl), by decide +kernel⟩
set_option maxRecDepth 20000 in
theorem e_cm83 : Cond.code yX10_revert cX10_revert 5 none ∈ lw_tbl ∧ plainName yX10_revert.cls = true := ⟨e_t3 (List.mem_of_getElem? (i := 173) rfl), by decide +kernel⟩
theorem e_cmc3 : ∀ q ∈ e_ml3, Cond.code q.1 q.2.1 q.2.2.1 q.2.2.2 ∈ lw_tbl ∧ plainName q.1.cls = true := List.forall_mem_cons.mpr ⟨e_cm63, List.forall_mem_cons.mpr ⟨e_cm64, List.forall_mem_cons.mpr ⟨e_cm65, List.forall_mem_cons.mpr ⟨e_cm66, List.forall_mem_cons.mpr ⟨e_cm67, List.forall_mem_cons.mpr ⟨e_cm68, List.forall_mem_cons.mpr ⟨e_cm69, List.forall_mem_cons.mpr ⟨e_cm70, List.forall_mem_cons.mpr ⟨e_cm71, List.forall_mem_cons.mpr ⟨e_cm72, List.forall_mem_cons.mpr ⟨e_cm73, List.forall_mem_cons.mpr ⟨e_cm74, List.forall_mem_cons.mpr ⟨e_cm75, List.forall_mem_cons.mpr ⟨e_cm76, List.forall_mem_cons.mpr ⟨e_cm77, List.forall_mem_cons.mpr ⟨e_cm78, List.forall_mem_cons.mpr ⟨e_cm79, List.forall_mem_cons.mpr ⟨e_cm80, List.forall_mem_cons.mpr ⟨e_cm81, List.forall_mem_cons.mpr ⟨e_cm82, List.forall_mem_cons.mpr ⟨e_cm83, fun _ h => absurd h List.not_mem_nil⟩⟩⟩⟩⟩⟩⟩⟩⟩⟩⟩⟩⟩⟩⟩⟩⟩⟩⟩⟩⟩
set_option maxRecDepth 20000 in
theorem e_cm84 : Cond.code yX10_putFirst cX10_putFirst 3 none ∈ lw_tbl ∧ plainName yX10_putFirst.cls = true := ⟨e_t3 (List.mem_of_getElem? (i := 178) rfl), by decide +kernel⟩
set_option maxRecDepth 20000 in
theorem e_cm85 : Cond.code yX10_putBack cX10_putBack 4 none ∈ lw_tbl ∧ plainName yX10_putBack.cls = true := ⟨e_t3 (List.mem_of_getElem? (i := 182) rfl), by decide +kernel⟩
set_option maxRecDepth 20000 in
theorem e_cm86 : Cond.code yX11_init cX11_init 1 none ∈ lw_tbl ∧ plainName yX11_init.cls = true := ⟨e_t1 (List.mem_of_getElem? (i := 28) rfl), by decide +kernel⟩
set_option maxRecDepth 20000 in
theorem e_cm87 : Cond.code yX11_make cX11_make 8 (some .int) ∈ lw_tbl ∧ plainName yX11_make.cls = true := ⟨e_t1 (List.mem_of_getElem? (i := 232) rfl), by decide +kernel⟩
set_option maxRecDepth 20000 in
theorem e_cm88 : Cond.code yX11_object cX11_object 5 (some .int) ∈ lw_tbl ∧ plainName yX11_object.cls = true := ⟨e_t2 (List.mem_of_getElem? (i := 219) rfl), by decide +kernel⟩
set_option maxRecDepth 20000 in
theorem e_cm89 : Cond.code yX11_digest cX11_digest 4 (some .int) ∈ lw_tbl ∧ plainName yX11_digest.cls = true := ⟨e_t2 (List.mem_of_getElem? (i := 223) rfl), by decide +kernel⟩
set_option maxRecDepth 20000 in
theorem e_cm90 : Cond.code yX11_begin cX11_begin 2 (some .int) ∈ lw_tbl ∧ plainName yX11_begin.cls = true := ⟨e_t2 (List.mem_of_getElem? (i := 227) rfl), by decide +kernel⟩
set_option maxRecDepth 20000 in
theorem e_cm91 : Cond.code yX11_nest cX11_nest 3 (some .int) ∈ lw_tbl ∧ plainName yX11_nest.cls = true := ⟨e_t3 (List.mem_of_getElem? (i := 106) rfl), by decide +kernel⟩
set_option maxRecDepth 20000 in
theorem e_cm92 : Cond.code yX11_join cX11_join 5 (some .int) ∈ lw_tbl ∧ plainName yX11_join.cls = true := ⟨e_t3 (List.mem_of_getElem? (i := 132) rfl), by decide +kernel⟩
set_option maxRecDepth 20000 in
theorem e_cm93 : Cond.code yX11_back cX11_back 4 (some .int) ∈ lw_tbl ∧ plainName yX11_back.cls = true := ⟨e_t3 (List.mem_of_getElem? (i := 147) rfl), by decide +kernel⟩
set_option maxRecDepth 20000 in
theorem e_cm94 : Cond.code yX11_save cX11_save 3 (some .int) ∈ lw_tbl ∧ plainName yX11_save.cls = true := ⟨e_t4 (List.mem_of_getElem? (i := 236) rfl), by decide +kernel⟩
set_option maxRecDepth 20000 in
theorem e_cm95 : Cond.code yX11_backTo cX11_backTo 4 (some .int) ∈ lw_tbl ∧ plainName yX11_backTo.cls = true := ⟨e_t5 (List.mem_of_getElem? (i := 0) rfl), by decide +kernel⟩
set_option maxRecDepth 20000 in
theorem e_cm96 : Cond.code yX11_end cX11_end 3 (some .int) ∈ lw_tbl ∧ plainName yX11_end.cls = true := ⟨e_t5 (List.mem_of_getElem? (i := 4) rfl), by decide +kernel⟩
set_option maxRecDepth 20000 in
theorem e_cm97 : Cond.code yX11_undo cX11_undo 4 (some .int) ∈ lw_tbl ∧ plainName yX11_undo.cls = true := ⟨e_t5 (List.mem_of_getElem? (i := 30) rfl), by decide +kernel⟩
set_option maxRecDepth 20000 in
theorem e_cm98 : Cond.code yX11_retry cX11_retry 3 (some .int) ∈ lw_tbl ∧ plainName yX11_retry.cls = true := ⟨e_t5 (List.mem_of_getElem? (i := 38) rfl), by decide +kernel⟩
set_option maxRecDepth 20000 in
theorem e_cm99 : Cond.code yX11_act cX11_act 7 (some .int) ∈ lw_tbl ∧ plainName yX11_act.cls = true := ⟨e_t5 (List.mem_of_getElem? (i := 42) rfl), by decide +kernel⟩
set_option maxRecDepth 20000 in
theorem e_cm100 : Cond.code yX11_of cX11_of 4 (some .int) ∈ lw_tbl ∧ plainName yX11_of.cls = true := ⟨e_t5 (List.mem_of_getElem? (i := 57) rfl), by decide +kernel⟩
set_option maxRecDepth 20000 in
theorem e_cm101 : Cond.code yX11_lock cX11_lock 5 (some .int) ∈ lw_tbl ∧ plainName yX11_lock.cls = true := ⟨e_t5 (List.mem_of_getElem? (i := 69) rfl), by decide +kernel⟩
set_option maxRecDepth 20000 in
theorem e_cm102 : Cond.code yX11_waits cX11_waits 5 (some .int) ∈ lw_tbl ∧ plainName yX11_waits.cls = true := ⟨e_t5 (List.mem_of_getElem? (i := 77) rfl), by decide +kernel⟩
set_option maxRecDepth 20000 in
theorem e_cm103 : Cond.code yX11_ring cX11_ring 2 (some .int) ∈ lw_tbl ∧ plainName yX11_ring.cls = true := ⟨e_t5 (List.mem_of_getElem? (i := 81) rfl), by decide +kernel⟩
set_option maxRecDepth 20000 in
theorem e_cm104 : Cond.code yX11_rule cX11_rule 3 (some .int) ∈ lw_tbl ∧ plainName yX11_rule.cls = true := ⟨e_t5 (List.mem_of_getElem? (i := 85) rfl), by decide +kernel⟩
theorem e_cmc4 : ∀ q ∈ e_ml4, Cond.code q.1 q.2.1 q.2.2.1 q.2.2.2 ∈ lw_tbl ∧ plainName q.1.cls = true := List.forall_mem_cons.mpr ⟨e_cm84, List.forall_mem_cons.mpr ⟨e_cm85, List.forall_mem_cons.mpr ⟨e_cm86, List.forall_mem_cons.mpr ⟨e_cm87, List.forall_mem_cons.mpr ⟨e_cm88, List.forall_mem_cons.mpr ⟨e_cm89, List.forall_mem_cons.mpr ⟨e_cm90, List.forall_mem_cons.mpr ⟨e_cm91, List.forall_mem_cons.mpr ⟨e_cm92, List.forall_mem_cons.mpr ⟨e_cm93, List.forall_mem_cons.mpr ⟨e_cm94, List.forall_mem_cons.mpr ⟨e_cm95, List.forall_mem_cons.mpr ⟨e_cm96, List.forall_mem_cons.mpr ⟨e_cm97, List.forall_mem_cons.mpr ⟨e_cm98, List.forall_mem_cons.mpr ⟨e_cm99, List.forall_mem_cons.mpr ⟨e_cm100, List.forall_mem_cons.mpr ⟨e_cm101, List.forall_mem_cons.mpr ⟨e_cm102, List.forall_mem_cons.mpr ⟨e_cm103, List.forall_mem_cons.mpr ⟨e_cm104, fun _ h => absurd h List.not_mem_nil⟩⟩⟩⟩⟩⟩⟩⟩⟩⟩⟩⟩⟩⟩⟩⟩⟩⟩⟩⟩⟩
set_option maxRecDepth 20000 in
theorem e_cm105 : Cond.code yX11_limit cX11_limit 3 (some .int) ∈ lw_tbl ∧ plainName yX11_limit.cls = true := ⟨e_t5 (List.mem_of_getElem? (i := 89) rfl), by decide +kernel⟩
set_option maxRecDepth 20000 in
theorem e_cm106 : Cond.code yX11_group cX11_group 3 (some .int) ∈ lw_tbl ∧ plainName yX11_group.cls = true := ⟨e_t5 (List.mem_of_getElem? (i := 93) rfl), by decide +kernel⟩
set_option maxRecDepth 20000 in
theorem e_cm107 : Cond.code yX11_rest cX11_rest 1 (some .int) ∈ lw_tbl ∧ plainName yX11_rest.cls = true := ⟨e_t5 (List.mem_of_getElem? (i := 97) rfl), by decide +kernel⟩
set_option maxRecDepth 20000 in
theorem e_cm108 : Cond.code yX11_cut cX11_cut 2 (some .int) ∈ lw_tbl ∧ plainName yX11_cut.cls = true := ⟨e_t5 (List.mem_of_getElem? (i := 102) rfl), by decide +kernel⟩
set_option maxRecDepth 20000 in
theorem e_cm109 : Cond.code yX11_crash cX11_crash 1 (some .int) ∈ lw_tbl ∧ plainName yX11_crash.cls = true := ⟨e_t5 (List.mem_of_getElem? (i := 139) rfl), by decide +kernel⟩
set_option maxRecDepth 20000 in
theorem e_cm110 : Cond.code yX11_row cX11_row 4 (some .int) ∈ lw_tbl ∧ plainName yX11_row.cls = true := ⟨e_t5 (List.mem_of_getElem? (i := 143) rfl), by decide +kernel⟩
set_option maxRecDepth 20000 in
theorem e_cm111 : Cond.code yX11_ended cX11_ended 2 (some .int) ∈ lw_tbl ∧ plainName yX11_ended.cls = true := ⟨e_t5 (List.mem_of_getElem? (i := 151) rfl), by decide +kernel⟩
set_option maxRecDepth 20000 in
theorem e_cm112 : Cond.code yX11_version cX11_version 4 (some .int) ∈ lw_tbl ∧ plainName yX11_version.cls = true := ⟨e_t5 (List.mem_of_getElem? (i := 155) rfl), by decide +kernel⟩
set_option maxRecDepth 20000 in
theorem e_cm113 : Cond.code yX11_commute cX11_commute 6 (some .int) ∈ lw_tbl ∧ plainName yX11_commute.cls = true := ⟨e_t5 (List.mem_of_getElem? (i := 164) rfl), by decide +kernel⟩
set_option maxRecDepth 20000 in
theorem e_cm114 : Cond.code yX11_tried cX11_tried 7 (some .int) ∈ lw_tbl ∧ plainName yX11_tried.cls = true := ⟨e_t5 (List.mem_of_getElem? (i := 169) rfl), by decide +kernel⟩
set_option maxRecDepth 20000 in
theorem e_cm115 : Cond.code yX11_serial cX11_serial 3 (some .int) ∈ lw_tbl ∧ plainName yX11_serial.cls = true := ⟨e_t5 (List.mem_of_getElem? (i := 197) rfl), by decide +kernel⟩
set_option maxRecDepth 20000 in
theorem e_cm116 : Cond.code yX11_trace cX11_trace 2 (some .int) ∈ lw_tbl ∧ plainName yX11_trace.cls = true := ⟨e_t5 (List.mem_of_getElem? (i := 206) rfl), by decide +kernel⟩
set_option maxRecDepth 20000 in
theorem e_cm117 : Cond.code yX11_count cX11_count 2 (some .int) ∈ lw_tbl ∧ plainName yX11_count.cls = true := ⟨e_t5 (List.mem_of_getElem? (i := 214) rfl), by decide +kernel⟩
set_option maxRecDepth 20000 in
theorem e_cm118 : Cond.code yX11_hasValue cX11_hasValue 1 (some .boolean) ∈ lw_tbl ∧ plainName yX11_hasValue.cls = true := ⟨e_t2 (List.mem_of_getElem? (i := 4) rfl), by decide +kernel⟩
set_option maxRecDepth 20000 in
theorem e_cm119 : Cond.code yX11_sortHas cX11_sortHas 2 (some .boolean) ∈ lw_tbl ∧ plainName yX11_sortHas.cls = true := ⟨e_t4 (List.mem_of_getElem? (i := 94) rfl), by decide +kernel⟩
set_option maxRecDepth 20000 in
theorem e_cm120 : Cond.code yX11_isReading cX11_isReading 2 (some .boolean) ∈ lw_tbl ∧ plainName yX11_isReading.cls = true := ⟨e_t3 (List.mem_of_getElem? (i := 235) rfl), by decide +kernel⟩
set_option maxRecDepth 20000 in
theorem e_cm121 : Cond.code yX11_fits cX11_fits 3 (some .boolean) ∈ lw_tbl ∧ plainName yX11_fits.cls = true := ⟨e_t5 (List.mem_of_getElem? (i := 45) rfl), by decide +kernel⟩
set_option maxRecDepth 20000 in
theorem e_cm122 : Cond.code yX11_agree cX11_agree 5 (some .boolean) ∈ lw_tbl ∧ plainName yX11_agree.cls = true := ⟨e_t4 (List.mem_of_getElem? (i := 62) rfl), by decide +kernel⟩
set_option maxRecDepth 20000 in
theorem e_cm123 : Cond.code yX11_isIn cX11_isIn 3 (some .boolean) ∈ lw_tbl ∧ plainName yX11_isIn.cls = true := ⟨e_t4 (List.mem_of_getElem? (i := 65) rfl), by decide +kernel⟩
set_option maxRecDepth 20000 in
theorem e_cm124 : Cond.code yX11_canTry cX11_canTry 3 (some .boolean) ∈ lw_tbl ∧ plainName yX11_canTry.cls = true := ⟨e_t5 (List.mem_of_getElem? (i := 172) rfl), by decide +kernel⟩
set_option maxRecDepth 20000 in
theorem e_cm125 : Cond.code yX11_sameEitherWay cX11_sameEitherWay 17 (some .boolean) ∈ lw_tbl ∧ plainName yX11_sameEitherWay.cls = true := ⟨e_t5 (List.mem_of_getElem? (i := 179) rfl), by decide +kernel⟩
theorem e_cmc5 : ∀ q ∈ e_ml5, Cond.code q.1 q.2.1 q.2.2.1 q.2.2.2 ∈ lw_tbl ∧ plainName q.1.cls = true := List.forall_mem_cons.mpr ⟨e_cm105, List.forall_mem_cons.mpr ⟨e_cm106, List.forall_mem_cons.mpr ⟨e_cm107, List.forall_mem_cons.mpr ⟨e_cm108, List.forall_mem_cons.mpr ⟨e_cm109, List.forall_mem_cons.mpr ⟨e_cm110, List.forall_mem_cons.mpr ⟨e_cm111, List.forall_mem_cons.mpr ⟨e_cm112, List.forall_mem_cons.mpr ⟨e_cm113, List.forall_mem_cons.mpr ⟨e_cm114, List.forall_mem_cons.mpr ⟨e_cm115, List.forall_mem_cons.mpr ⟨e_cm116, List.forall_mem_cons.mpr ⟨e_cm117, List.forall_mem_cons.mpr ⟨e_cm118, List.forall_mem_cons.mpr ⟨e_cm119, List.forall_mem_cons.mpr ⟨e_cm120, List.forall_mem_cons.mpr ⟨e_cm121, List.forall_mem_cons.mpr ⟨e_cm122, List.forall_mem_cons.mpr ⟨e_cm123, List.forall_mem_cons.mpr ⟨e_cm124, List.forall_mem_cons.mpr ⟨e_cm125, fun _ h => absurd h List.not_mem_nil⟩⟩⟩⟩⟩⟩⟩⟩⟩⟩⟩⟩⟩⟩⟩⟩⟩⟩⟩⟩⟩
set_option maxRecDepth 20000 in
theorem e_cm126 : Cond.code yX11_dealOf cX11_dealOf 2 (some (.object "HoldHouse$Deal")) ∈ lw_tbl ∧ plainName yX11_dealOf.cls = true := ⟨e_t3 (List.mem_of_getElem? (i := 110) rfl), by decide +kernel⟩
set_option maxRecDepth 20000 in
theorem e_cm127 : Cond.code yX11_spotOf cX11_spotOf 2 (some (.object "HoldHouse$Spot")) ∈ lw_tbl ∧ plainName yX11_spotOf.cls = true := ⟨e_t3 (List.mem_of_getElem? (i := 136) rfl), by decide +kernel⟩
set_option maxRecDepth 20000 in
theorem e_cm128 : Cond.code yX11_inState cX11_inState 4 (some .int) ∈ lw_tbl ∧ plainName yX11_inState.cls = true := ⟨e_t5 (List.mem_of_getElem? (i := 218) rfl), by decide +kernel⟩
set_option maxRecDepth 20000 in
theorem e_cm129 : Cond.code yX11_locksOf cX11_locksOf 5 (some .int) ∈ lw_tbl ∧ plainName yX11_locksOf.cls = true := ⟨e_t5 (List.mem_of_getElem? (i := 61) rfl), by decide +kernel⟩
set_option maxRecDepth 20000 in
theorem e_cm130 : Cond.code yX11_allLocks cX11_allLocks 4 (some .int) ∈ lw_tbl ∧ plainName yX11_allLocks.cls = true := ⟨e_t5 (List.mem_of_getElem? (i := 222) rfl), by decide +kernel⟩
set_option maxRecDepth 20000 in
theorem e_cm131 : Cond.code yX11_placeSpot cX11_placeSpot 3 none ∈ lw_tbl ∧ plainName yX11_placeSpot.cls = true := ⟨e_t2 (List.mem_of_getElem? (i := 46) rfl), by decide +kernel⟩
set_option maxRecDepth 20000 in
theorem e_cm132 : Cond.code yX11_start cX11_start 4 (some .int) ∈ lw_tbl ∧ plainName yX11_start.cls = true := ⟨e_t2 (List.mem_of_getElem? (i := 231) rfl), by decide +kernel⟩
set_option maxRecDepth 20000 in
theorem e_cm133 : Cond.code yX11_leave cX11_leave 3 none ∈ lw_tbl ∧ plainName yX11_leave.cls = true := ⟨e_t4 (List.mem_of_getElem? (i := 218) rfl), by decide +kernel⟩
set_option maxRecDepth 20000 in
theorem e_cm134 : Cond.code yX11_freeLocks cX11_freeLocks 6 none ∈ lw_tbl ∧ plainName yX11_freeLocks.cls = true := ⟨e_t3 (List.mem_of_getElem? (i := 192) rfl), by decide +kernel⟩
set_option maxRecDepth 20000 in
theorem e_cm135 : Cond.code yX11_undoWhole cX11_undoWhole 4 (some .int) ∈ lw_tbl ∧ plainName yX11_undoWhole.cls = true := ⟨e_t4 (List.mem_of_getElem? (i := 214) rfl), by decide +kernel⟩
set_option maxRecDepth 20000 in
theorem e_cm136 : Cond.code yX11_undoActs cX11_undoActs 6 (some .int) ∈ lw_tbl ∧ plainName yX11_undoActs.cls = true := ⟨e_t3 (List.mem_of_getElem? (i := 155) rfl), by decide +kernel⟩
set_option maxRecDepth 20000 in
theorem e_cm137 : Cond.code yX11_settle cX11_settle 4 none ∈ lw_tbl ∧ plainName yX11_settle.cls = true := ⟨e_t3 (List.mem_of_getElem? (i := 209) rfl), by decide +kernel⟩
set_option maxRecDepth 20000 in
theorem e_cm138 : Cond.code yX11_getsAll cX11_getsAll 5 (some .boolean) ∈ lw_tbl ∧ plainName yX11_getsAll.cls = true := ⟨e_t3 (List.mem_of_getElem? (i := 214) rfl), by decide +kernel⟩
set_option maxRecDepth 20000 in
theorem e_cm139 : Cond.code yX11_nextNeed cX11_nextNeed 7 (some (.object "HoldHouse$Lock")) ∈ lw_tbl ∧ plainName yX11_nextNeed.cls = true := ⟨e_t3 (List.mem_of_getElem? (i := 218) rfl), by decide +kernel⟩
set_option maxRecDepth 20000 in
theorem e_cm140 : Cond.code yX11_legPlace cX11_legPlace 2 (some .int) ∈ lw_tbl ∧ plainName yX11_legPlace.cls = true := ⟨e_t3 (List.mem_of_getElem? (i := 222) rfl), by decide +kernel⟩
set_option maxRecDepth 20000 in
theorem e_cm141 : Cond.code yX11_lockOn cX11_lockOn 4 (some (.object "HoldHouse$Lock")) ∈ lw_tbl ∧ plainName yX11_lockOn.cls = true := ⟨e_t4 (List.mem_of_getElem? (i := 39) rfl), by decide +kernel⟩
set_option maxRecDepth 20000 in
theorem e_cm142 : Cond.code yX11_carryOut cX11_carryOut 6 none ∈ lw_tbl ∧ plainName yX11_carryOut.cls = true := ⟨e_t4 (List.mem_of_getElem? (i := 83) rfl), by decide +kernel⟩
set_option maxRecDepth 20000 in
theorem e_cm143 : Cond.code yX11_grantFirst cX11_grantFirst 5 (some (.object "HoldHouse$Deal")) ∈ lw_tbl ∧ plainName yX11_grantFirst.cls = true := ⟨e_t4 (List.mem_of_getElem? (i := 228) rfl), by decide +kernel⟩
set_option maxRecDepth 20000 in
theorem e_cm144 : Cond.code yX11_breakRings cX11_breakRings 4 none ∈ lw_tbl ∧ plainName yX11_breakRings.cls = true := ⟨e_t4 (List.mem_of_getElem? (i := 173) rfl), by decide +kernel⟩
set_option maxRecDepth 20000 in
theorem e_cm145 : Cond.code yX11_drawEdges cX11_drawEdges 5 none ∈ lw_tbl ∧ plainName yX11_drawEdges.cls = true := ⟨e_t4 (List.mem_of_getElem? (i := 177) rfl), by decide +kernel⟩
set_option maxRecDepth 20000 in
theorem e_cm146 : Cond.code yX11_chooseVictim cX11_chooseVictim 4 (some (.object "HoldHouse$Deal")) ∈ lw_tbl ∧ plainName yX11_chooseVictim.cls = true := ⟨e_t4 (List.mem_of_getElem? (i := 198) rfl), by decide +kernel⟩
theorem e_cmc6 : ∀ q ∈ e_ml6, Cond.code q.1 q.2.1 q.2.2.1 q.2.2.2 ∈ lw_tbl ∧ plainName q.1.cls = true := List.forall_mem_cons.mpr ⟨e_cm126, List.forall_mem_cons.mpr ⟨e_cm127, List.forall_mem_cons.mpr ⟨e_cm128, List.forall_mem_cons.mpr ⟨e_cm129, List.forall_mem_cons.mpr ⟨e_cm130, List.forall_mem_cons.mpr ⟨e_cm131, List.forall_mem_cons.mpr ⟨e_cm132, List.forall_mem_cons.mpr ⟨e_cm133, List.forall_mem_cons.mpr ⟨e_cm134, List.forall_mem_cons.mpr ⟨e_cm135, List.forall_mem_cons.mpr ⟨e_cm136, List.forall_mem_cons.mpr ⟨e_cm137, List.forall_mem_cons.mpr ⟨e_cm138, List.forall_mem_cons.mpr ⟨e_cm139, List.forall_mem_cons.mpr ⟨e_cm140, List.forall_mem_cons.mpr ⟨e_cm141, List.forall_mem_cons.mpr ⟨e_cm142, List.forall_mem_cons.mpr ⟨e_cm143, List.forall_mem_cons.mpr ⟨e_cm144, List.forall_mem_cons.mpr ⟨e_cm145, List.forall_mem_cons.mpr ⟨e_cm146, fun _ h => absurd h List.not_mem_nil⟩⟩⟩⟩⟩⟩⟩⟩⟩⟩⟩⟩⟩⟩⟩⟩⟩⟩⟩⟩⟩
set_option maxRecDepth 20000 in
theorem e_cm147 : Cond.code yX11_redo cX11_redo 7 (some .boolean) ∈ lw_tbl ∧ plainName yX11_redo.cls = true := ⟨e_t5 (List.mem_of_getElem? (i := 16) rfl), by decide +kernel⟩
set_option maxRecDepth 20000 in
theorem e_cm148 : Cond.code yX11_tellVersions cX11_tellVersions 8 none ∈ lw_tbl ∧ plainName yX11_tellVersions.cls = true := ⟨e_t5 (List.mem_of_getElem? (i := 20) rfl), by decide +kernel⟩
set_option maxRecDepth 20000 in
theorem e_cm149 : Cond.code yX11_dropBehind cX11_dropBehind 4 none ∈ lw_tbl ∧ plainName yX11_dropBehind.cls = true := ⟨e_t5 (List.mem_of_getElem? (i := 106) rfl), by decide +kernel⟩
set_option maxRecDepth 20000 in
theorem e_cm150 : Cond.code yX11_undoByCut cX11_undoByCut 2 none ∈ lw_tbl ∧ plainName yX11_undoByCut.cls = true := ⟨e_t5 (List.mem_of_getElem? (i := 110) rfl), by decide +kernel⟩
set_option maxRecDepth 20000 in
theorem e_cm151 : Cond.code yX11_rebuild cX11_rebuild 4 none ∈ lw_tbl ∧ plainName yX11_rebuild.cls = true := ⟨e_t5 (List.mem_of_getElem? (i := 125) rfl), by decide +kernel⟩
set_option maxRecDepth 20000 in
theorem e_cm152 : Cond.code yX12_init cX12_init 1 none ∈ lw_tbl ∧ plainName yX12_init.cls = true := ⟨e_t5 (List.mem_of_getElem? (i := 227) rfl), by decide +kernel⟩
set_option maxRecDepth 20000 in
theorem e_cm153 : Cond.code yX12_isIn cX12_isIn 3 (some .boolean) ∈ lw_tbl ∧ plainName yX12_isIn.cls = true := ⟨e_t7 (List.mem_of_getElem? (i := 63) rfl), by decide +kernel⟩
set_option maxRecDepth 20000 in
theorem e_cm154 : Cond.code yX12_sortAt cX12_sortAt 2 (some .int) ∈ lw_tbl ∧ plainName yX12_sortAt.cls = true := ⟨e_t7 (List.mem_of_getElem? (i := 80) rfl), by decide +kernel⟩
set_option maxRecDepth 20000 in
theorem e_cm155 : Cond.code yX12_isObject cX12_isObject 2 (some .boolean) ∈ lw_tbl ∧ plainName yX12_isObject.cls = true := ⟨e_t7 (List.mem_of_getElem? (i := 67) rfl), by decide +kernel⟩
set_option maxRecDepth 20000 in
theorem e_cm156 : Cond.code yX12_asMade cX12_asMade 3 none ∈ lw_tbl ∧ plainName yX12_asMade.cls = true := ⟨e_t7 (List.mem_of_getElem? (i := 72) rfl), by decide +kernel⟩
set_option maxRecDepth 20000 in
theorem e_cm157 : Cond.code yX12_copyTo cX12_copyTo 4 none ∈ lw_tbl ∧ plainName yX12_copyTo.cls = true := ⟨e_t8 (List.mem_of_getElem? (i := 149) rfl), by decide +kernel⟩
set_option maxRecDepth 20000 in
theorem e_cm158 : Cond.code yX12_isLike cX12_isLike 6 (some .boolean) ∈ lw_tbl ∧ plainName yX12_isLike.cls = true := ⟨e_t8 (List.mem_of_getElem? (i := 141) rfl), by decide +kernel⟩
set_option maxRecDepth 20000 in
theorem e_cm159 : Cond.code yX12_digestAt cX12_digestAt 4 (some .int) ∈ lw_tbl ∧ plainName yX12_digestAt.cls = true := ⟨e_t7 (List.mem_of_getElem? (i := 76) rfl), by decide +kernel⟩
set_option maxRecDepth 20000 in
theorem e_cm160 : Cond.code yX12_make cX12_make 7 (some .int) ∈ lw_tbl ∧ plainName yX12_make.cls = true := ⟨e_t7 (List.mem_of_getElem? (i := 60) rfl), by decide +kernel⟩
set_option maxRecDepth 20000 in
theorem e_cm161 : Cond.code yX12_object cX12_object 3 (some .int) ∈ lw_tbl ∧ plainName yX12_object.cls = true := ⟨e_t7 (List.mem_of_getElem? (i := 88) rfl), by decide +kernel⟩
set_option maxRecDepth 20000 in
theorem e_cm162 : Cond.code yX12_digest cX12_digest 3 (some .int) ∈ lw_tbl ∧ plainName yX12_digest.cls = true := ⟨e_t7 (List.mem_of_getElem? (i := 92) rfl), by decide +kernel⟩
set_option maxRecDepth 20000 in
theorem e_cm163 : Cond.code yX12_put cX12_put 9 none ∈ lw_tbl ∧ plainName yX12_put.cls = true := ⟨e_t7 (List.mem_of_getElem? (i := 84) rfl), by decide +kernel⟩
set_option maxRecDepth 20000 in
theorem e_cm164 : Cond.code yX12_row cX12_row 3 (some .int) ∈ lw_tbl ∧ plainName yX12_row.cls = true := ⟨e_t7 (List.mem_of_getElem? (i := 96) rfl), by decide +kernel⟩
set_option maxRecDepth 20000 in
theorem e_cm165 : Cond.code yX12_forceAll cX12_forceAll 1 none ∈ lw_tbl ∧ plainName yX12_forceAll.cls = true := ⟨e_t7 (List.mem_of_getElem? (i := 104) rfl), by decide +kernel⟩
set_option maxRecDepth 20000 in
theorem e_cm166 : Cond.code yX12_rest cX12_rest 1 (some .int) ∈ lw_tbl ∧ plainName yX12_rest.cls = true := ⟨e_t7 (List.mem_of_getElem? (i := 100) rfl), by decide +kernel⟩
set_option maxRecDepth 20000 in
theorem e_cm167 : Cond.code yX12_group cX12_group 3 (some .int) ∈ lw_tbl ∧ plainName yX12_group.cls = true := ⟨e_t7 (List.mem_of_getElem? (i := 108) rfl), by decide +kernel⟩
theorem e_cmc7 : ∀ q ∈ e_ml7, Cond.code q.1 q.2.1 q.2.2.1 q.2.2.2 ∈ lw_tbl ∧ plainName q.1.cls = true := List.forall_mem_cons.mpr ⟨e_cm147, List.forall_mem_cons.mpr ⟨e_cm148, List.forall_mem_cons.mpr ⟨e_cm149, List.forall_mem_cons.mpr ⟨e_cm150, List.forall_mem_cons.mpr ⟨e_cm151, List.forall_mem_cons.mpr ⟨e_cm152, List.forall_mem_cons.mpr ⟨e_cm153, List.forall_mem_cons.mpr ⟨e_cm154, List.forall_mem_cons.mpr ⟨e_cm155, List.forall_mem_cons.mpr ⟨e_cm156, List.forall_mem_cons.mpr ⟨e_cm157, List.forall_mem_cons.mpr ⟨e_cm158, List.forall_mem_cons.mpr ⟨e_cm159, List.forall_mem_cons.mpr ⟨e_cm160, List.forall_mem_cons.mpr ⟨e_cm161, List.forall_mem_cons.mpr ⟨e_cm162, List.forall_mem_cons.mpr ⟨e_cm163, List.forall_mem_cons.mpr ⟨e_cm164, List.forall_mem_cons.mpr ⟨e_cm165, List.forall_mem_cons.mpr ⟨e_cm166, List.forall_mem_cons.mpr ⟨e_cm167, fun _ h => absurd h List.not_mem_nil⟩⟩⟩⟩⟩⟩⟩⟩⟩⟩⟩⟩⟩⟩⟩⟩⟩⟩⟩⟩⟩
set_option maxRecDepth 20000 in
theorem e_cm168 : Cond.code yX12_body cX12_body 2 none ∈ lw_tbl ∧ plainName yX12_body.cls = true := ⟨e_t8 (List.mem_of_getElem? (i := 32) rfl), by decide +kernel⟩
set_option maxRecDepth 20000 in
theorem e_cm169 : Cond.code yX12_trace cX12_trace 2 (some .int) ∈ lw_tbl ∧ plainName yX12_trace.cls = true := ⟨e_t7 (List.mem_of_getElem? (i := 112) rfl), by decide +kernel⟩
set_option maxRecDepth 20000 in
theorem e_cm170 : Cond.code yX12_has cX12_has 2 (some .boolean) ∈ lw_tbl ∧ plainName yX12_has.cls = true := ⟨e_t8 (List.mem_of_getElem? (i := 28) rfl), by decide +kernel⟩
set_option maxRecDepth 20000 in
theorem e_cm171 : Cond.code yX12_isReading cX12_isReading 2 (some .boolean) ∈ lw_tbl ∧ plainName yX12_isReading.cls = true := ⟨e_t7 (List.mem_of_getElem? (i := 122) rfl), by decide +kernel⟩
set_option maxRecDepth 20000 in
theorem e_cm172 : Cond.code yX12_doCommute cX12_doCommute 5 (some .boolean) ∈ lw_tbl ∧ plainName yX12_doCommute.cls = true := ⟨e_t7 (List.mem_of_getElem? (i := 119) rfl), by decide +kernel⟩
set_option maxRecDepth 20000 in
theorem e_cm173 : Cond.code yX12_commute cX12_commute 6 (some .int) ∈ lw_tbl ∧ plainName yX12_commute.cls = true := ⟨e_t7 (List.mem_of_getElem? (i := 116) rfl), by decide +kernel⟩
set_option maxRecDepth 20000 in
theorem e_cm174 : Cond.code yX12_more cX12_more 6 none ∈ lw_tbl ∧ plainName yX12_more.cls = true := ⟨e_t8 (List.mem_of_getElem? (i := 36) rfl), by decide +kernel⟩
set_option maxRecDepth 20000 in
theorem e_cm175 : Cond.code yX12_isBelow cX12_isBelow 4 (some .boolean) ∈ lw_tbl ∧ plainName yX12_isBelow.cls = true := ⟨e_t8 (List.mem_of_getElem? (i := 61) rfl), by decide +kernel⟩
set_option maxRecDepth 20000 in
theorem e_cm176 : Cond.code yX12_sumBelow cX12_sumBelow 6 (some .int) ∈ lw_tbl ∧ plainName yX12_sumBelow.cls = true := ⟨e_t8 (List.mem_of_getElem? (i := 57) rfl), by decide +kernel⟩
set_option maxRecDepth 20000 in
theorem e_cm177 : Cond.code yX12_bitsOf cX12_bitsOf 4 (some .int) ∈ lw_tbl ∧ plainName yX12_bitsOf.cls = true := ⟨e_t8 (List.mem_of_getElem? (i := 45) rfl), by decide +kernel⟩
set_option maxRecDepth 20000 in
theorem e_cm178 : Cond.code yX12_ofQueue cX12_ofQueue 8 (some .int) ∈ lw_tbl ∧ plainName yX12_ofQueue.cls = true := ⟨e_t8 (List.mem_of_getElem? (i := 49) rfl), by decide +kernel⟩
set_option maxRecDepth 20000 in
theorem e_cm179 : Cond.code yX12_ofMap cX12_ofMap 7 (some .int) ∈ lw_tbl ∧ plainName yX12_ofMap.cls = true := ⟨e_t8 (List.mem_of_getElem? (i := 53) rfl), by decide +kernel⟩
set_option maxRecDepth 20000 in
theorem e_cm180 : Cond.code yX12_ofSet cX12_ofSet 5 (some .int) ∈ lw_tbl ∧ plainName yX12_ofSet.cls = true := ⟨e_t8 (List.mem_of_getElem? (i := 41) rfl), by decide +kernel⟩
set_option maxRecDepth 20000 in
theorem e_cm181 : Cond.code yX12_work cX12_work 7 (some .int) ∈ lw_tbl ∧ plainName yX12_work.cls = true := ⟨e_t8 (List.mem_of_getElem? (i := 25) rfl), by decide +kernel⟩
set_option maxRecDepth 20000 in
theorem e_cm182 : Cond.code yX12_contrary cX12_contrary 6 none ∈ lw_tbl ∧ plainName yX12_contrary.cls = true := ⟨e_t7 (List.mem_of_getElem? (i := 154) rfl), by decide +kernel⟩
set_option maxRecDepth 20000 in
theorem e_cm183 : Cond.code yX12_isOne cX12_isOne 2 (some .boolean) ∈ lw_tbl ∧ plainName yX12_isOne.cls = true := ⟨e_t7 (List.mem_of_getElem? (i := 138) rfl), by decide +kernel⟩
set_option maxRecDepth 20000 in
theorem e_cm184 : Cond.code yX12_comes cX12_comes 4 (some .int) ∈ lw_tbl ∧ plainName yX12_comes.cls = true := ⟨e_t7 (List.mem_of_getElem? (i := 130) rfl), by decide +kernel⟩
set_option maxRecDepth 20000 in
theorem e_cm185 : Cond.code yX12_begin cX12_begin 2 (some .int) ∈ lw_tbl ∧ plainName yX12_begin.cls = true := ⟨e_t7 (List.mem_of_getElem? (i := 126) rfl), by decide +kernel⟩
set_option maxRecDepth 20000 in
theorem e_cm186 : Cond.code yX12_retry cX12_retry 2 (some .int) ∈ lw_tbl ∧ plainName yX12_retry.cls = true := ⟨e_t7 (List.mem_of_getElem? (i := 134) rfl), by decide +kernel⟩
set_option maxRecDepth 20000 in
theorem e_cm187 : Cond.code yX12_leaves cX12_leaves 4 none ∈ lw_tbl ∧ plainName yX12_leaves.cls = true := ⟨e_t7 (List.mem_of_getElem? (i := 174) rfl), by decide +kernel⟩
set_option maxRecDepth 20000 in
theorem e_cm188 : Cond.code yX12_takeBack cX12_takeBack 5 (some .int) ∈ lw_tbl ∧ plainName yX12_takeBack.cls = true := ⟨e_t7 (List.mem_of_getElem? (i := 150) rfl), by decide +kernel⟩
theorem e_cmc8 : ∀ q ∈ e_ml8, Cond.code q.1 q.2.1 q.2.2.1 q.2.2.2 ∈ lw_tbl ∧ plainName q.1.cls = true := List.forall_mem_cons.mpr ⟨e_cm168, List.forall_mem_cons.mpr ⟨e_cm169, List.forall_mem_cons.mpr ⟨e_cm170, List.forall_mem_cons.mpr ⟨e_cm171, List.forall_mem_cons.mpr ⟨e_cm172, List.forall_mem_cons.mpr ⟨e_cm173, List.forall_mem_cons.mpr ⟨e_cm174, List.forall_mem_cons.mpr ⟨e_cm175, List.forall_mem_cons.mpr ⟨e_cm176, List.forall_mem_cons.mpr ⟨e_cm177, List.forall_mem_cons.mpr ⟨e_cm178, List.forall_mem_cons.mpr ⟨e_cm179, List.forall_mem_cons.mpr ⟨e_cm180, List.forall_mem_cons.mpr ⟨e_cm181, List.forall_mem_cons.mpr ⟨e_cm182, List.forall_mem_cons.mpr ⟨e_cm183, List.forall_mem_cons.mpr ⟨e_cm184, List.forall_mem_cons.mpr ⟨e_cm185, List.forall_mem_cons.mpr ⟨e_cm186, List.forall_mem_cons.mpr ⟨e_cm187, List.forall_mem_cons.mpr ⟨e_cm188, fun _ h => absurd h List.not_mem_nil⟩⟩⟩⟩⟩⟩⟩⟩⟩⟩⟩⟩⟩⟩⟩⟩⟩⟩⟩⟩⟩
set_option maxRecDepth 20000 in
theorem e_cm189 : Cond.code yX12_undoWhole cX12_undoWhole 5 (some .int) ∈ lw_tbl ∧ plainName yX12_undoWhole.cls = true := ⟨e_t7 (List.mem_of_getElem? (i := 146) rfl), by decide +kernel⟩
set_option maxRecDepth 20000 in
theorem e_cm190 : Cond.code yX12_undo cX12_undo 3 (some .int) ∈ lw_tbl ∧ plainName yX12_undo.cls = true := ⟨e_t7 (List.mem_of_getElem? (i := 142) rfl), by decide +kernel⟩
set_option maxRecDepth 20000 in
theorem e_cm191 : Cond.code yX12_nest cX12_nest 2 (some .int) ∈ lw_tbl ∧ plainName yX12_nest.cls = true := ⟨e_t8 (List.mem_of_getElem? (i := 65) rfl), by decide +kernel⟩
set_option maxRecDepth 20000 in
theorem e_cm192 : Cond.code yX12_join cX12_join 3 (some .int) ∈ lw_tbl ∧ plainName yX12_join.cls = true := ⟨e_t8 (List.mem_of_getElem? (i := 69) rfl), by decide +kernel⟩
set_option maxRecDepth 20000 in
theorem e_cm193 : Cond.code yX12_back cX12_back 3 (some .int) ∈ lw_tbl ∧ plainName yX12_back.cls = true := ⟨e_t8 (List.mem_of_getElem? (i := 73) rfl), by decide +kernel⟩
set_option maxRecDepth 20000 in
theorem e_cm194 : Cond.code yX12_save cX12_save 2 (some .int) ∈ lw_tbl ∧ plainName yX12_save.cls = true := ⟨e_t8 (List.mem_of_getElem? (i := 77) rfl), by decide +kernel⟩
set_option maxRecDepth 20000 in
theorem e_cm195 : Cond.code yX12_backTo cX12_backTo 4 (some .int) ∈ lw_tbl ∧ plainName yX12_backTo.cls = true := ⟨e_t8 (List.mem_of_getElem? (i := 81) rfl), by decide +kernel⟩
set_option maxRecDepth 20000 in
theorem e_cm196 : Cond.code yX12_moveLock cX12_moveLock 3 none ∈ lw_tbl ∧ plainName yX12_moveLock.cls = true := ⟨e_t7 (List.mem_of_getElem? (i := 170) rfl), by decide +kernel⟩
set_option maxRecDepth 20000 in
theorem e_cm197 : Cond.code yX12_dropLocks cX12_dropLocks 6 none ∈ lw_tbl ∧ plainName yX12_dropLocks.cls = true := ⟨e_t7 (List.mem_of_getElem? (i := 166) rfl), by decide +kernel⟩
set_option maxRecDepth 20000 in
theorem e_cm198 : Cond.code yX12_moveWait cX12_moveWait 3 none ∈ lw_tbl ∧ plainName yX12_moveWait.cls = true := ⟨e_t7 (List.mem_of_getElem? (i := 162) rfl), by decide +kernel⟩
set_option maxRecDepth 20000 in
theorem e_cm199 : Cond.code yX12_dropWait cX12_dropWait 3 none ∈ lw_tbl ∧ plainName yX12_dropWait.cls = true := ⟨e_t7 (List.mem_of_getElem? (i := 158) rfl), by decide +kernel⟩
set_option maxRecDepth 20000 in
theorem e_cm200 : Cond.code yX12_isAgainst cX12_isAgainst 3 (some .boolean) ∈ lw_tbl ∧ plainName yX12_isAgainst.cls = true := ⟨e_t7 (List.mem_of_getElem? (i := 193) rfl), by decide +kernel⟩
set_option maxRecDepth 20000 in
theorem e_cm201 : Cond.code yX12_doConflict cX12_doConflict 8 (some .boolean) ∈ lw_tbl ∧ plainName yX12_doConflict.cls = true := ⟨e_t7 (List.mem_of_getElem? (i := 190) rfl), by decide +kernel⟩
set_option maxRecDepth 20000 in
theorem e_cm202 : Cond.code yX12_isAgainstHeld cX12_isAgainstHeld 8 (some .boolean) ∈ lw_tbl ∧ plainName yX12_isAgainstHeld.cls = true := ⟨e_t7 (List.mem_of_getElem? (i := 186) rfl), by decide +kernel⟩
set_option maxRecDepth 20000 in
theorem e_cm203 : Cond.code yX12_seatOf cX12_seatOf 5 (some .int) ∈ lw_tbl ∧ plainName yX12_seatOf.cls = true := ⟨e_t7 (List.mem_of_getElem? (i := 233) rfl), by decide +kernel⟩
set_option maxRecDepth 20000 in
theorem e_cm204 : Cond.code yX12_isAgainstWaits cX12_isAgainstWaits 9 (some .boolean) ∈ lw_tbl ∧ plainName yX12_isAgainstWaits.cls = true := ⟨e_t7 (List.mem_of_getElem? (i := 197) rfl), by decide +kernel⟩
set_option maxRecDepth 20000 in
theorem e_cm205 : Cond.code yX12_holdsAny cX12_holdsAny 5 (some .boolean) ∈ lw_tbl ∧ plainName yX12_holdsAny.cls = true := ⟨e_t7 (List.mem_of_getElem? (i := 229) rfl), by decide +kernel⟩
set_option maxRecDepth 20000 in
theorem e_cm206 : Cond.code yX12_holds cX12_holds 8 (some .boolean) ∈ lw_tbl ∧ plainName yX12_holds.cls = true := ⟨e_t7 (List.mem_of_getElem? (i := 225) rfl), by decide +kernel⟩
set_option maxRecDepth 20000 in
theorem e_cm207 : Cond.code yX12_grant cX12_grant 6 none ∈ lw_tbl ∧ plainName yX12_grant.cls = true := ⟨e_t7 (List.mem_of_getElem? (i := 201) rfl), by decide +kernel⟩
set_option maxRecDepth 20000 in
theorem e_cm208 : Cond.code yX12_need cX12_need 5 none ∈ lw_tbl ∧ plainName yX12_need.cls = true := ⟨e_t7 (List.mem_of_getElem? (i := 221) rfl), by decide +kernel⟩
set_option maxRecDepth 20000 in
theorem e_cm209 : Cond.code yX12_needPath cX12_needPath 7 none ∈ lw_tbl ∧ plainName yX12_needPath.cls = true := ⟨e_t7 (List.mem_of_getElem? (i := 217) rfl), by decide +kernel⟩
theorem e_cmc9 : ∀ q ∈ e_ml9, Cond.code q.1 q.2.1 q.2.2.1 q.2.2.2 ∈ lw_tbl ∧ plainName q.1.cls = true := List.forall_mem_cons.mpr ⟨e_cm189, List.forall_mem_cons.mpr ⟨e_cm190, List.forall_mem_cons.mpr ⟨e_cm191, List.forall_mem_cons.mpr ⟨e_cm192, List.forall_mem_cons.mpr ⟨e_cm193, List.forall_mem_cons.mpr ⟨e_cm194, List.forall_mem_cons.mpr ⟨e_cm195, List.forall_mem_cons.mpr ⟨e_cm196, List.forall_mem_cons.mpr ⟨e_cm197, List.forall_mem_cons.mpr ⟨e_cm198, List.forall_mem_cons.mpr ⟨e_cm199, List.forall_mem_cons.mpr ⟨e_cm200, List.forall_mem_cons.mpr ⟨e_cm201, List.forall_mem_cons.mpr ⟨e_cm202, List.forall_mem_cons.mpr ⟨e_cm203, List.forall_mem_cons.mpr ⟨e_cm204, List.forall_mem_cons.mpr ⟨e_cm205, List.forall_mem_cons.mpr ⟨e_cm206, List.forall_mem_cons.mpr ⟨e_cm207, List.forall_mem_cons.mpr ⟨e_cm208, List.forall_mem_cons.mpr ⟨e_cm209, fun _ h => absurd h List.not_mem_nil⟩⟩⟩⟩⟩⟩⟩⟩⟩⟩⟩⟩⟩⟩⟩⟩⟩⟩⟩⟩⟩
set_option maxRecDepth 20000 in
theorem e_cm210 : Cond.code yX12_needAct cX12_needAct 4 none ∈ lw_tbl ∧ plainName yX12_needAct.cls = true := ⟨e_t7 (List.mem_of_getElem? (i := 213) rfl), by decide +kernel⟩
set_option maxRecDepth 20000 in
theorem e_cm211 : Cond.code yX12_needsOf cX12_needsOf 6 none ∈ lw_tbl ∧ plainName yX12_needsOf.cls = true := ⟨e_t7 (List.mem_of_getElem? (i := 209) rfl), by decide +kernel⟩
set_option maxRecDepth 20000 in
theorem e_cm212 : Cond.code yX12_goOn cX12_goOn 6 none ∈ lw_tbl ∧ plainName yX12_goOn.cls = true := ⟨e_t7 (List.mem_of_getElem? (i := 205) rfl), by decide +kernel⟩
set_option maxRecDepth 20000 in
theorem e_cm213 : Cond.code yX12_waitsHere cX12_waitsHere 6 none ∈ lw_tbl ∧ plainName yX12_waitsHere.cls = true := ⟨e_t7 (List.mem_of_getElem? (i := 237) rfl), by decide +kernel⟩
set_option maxRecDepth 20000 in
theorem e_cm214 : Cond.code yX12_doIt cX12_doIt 6 none ∈ lw_tbl ∧ plainName yX12_doIt.cls = true := ⟨e_t8 (List.mem_of_getElem? (i := 21) rfl), by decide +kernel⟩
set_option maxRecDepth 20000 in
theorem e_cm215 : Cond.code yX12_grantable cX12_grantable 4 (some .int) ∈ lw_tbl ∧ plainName yX12_grantable.cls = true := ⟨e_t7 (List.mem_of_getElem? (i := 182) rfl), by decide +kernel⟩
set_option maxRecDepth 20000 in
theorem e_cm216 : Cond.code yX12_settle cX12_settle 3 none ∈ lw_tbl ∧ plainName yX12_settle.cls = true := ⟨e_t7 (List.mem_of_getElem? (i := 178) rfl), by decide +kernel⟩
set_option maxRecDepth 20000 in
theorem e_cm217 : Cond.code yX12_waitsFor cX12_waitsFor 7 (some .boolean) ∈ lw_tbl ∧ plainName yX12_waitsFor.cls = true := ⟨e_t8 (List.mem_of_getElem? (i := 9) rfl), by decide +kernel⟩
set_option maxRecDepth 20000 in
theorem e_cm218 : Cond.code yX12_reckonFar cX12_reckonFar 7 none ∈ lw_tbl ∧ plainName yX12_reckonFar.cls = true := ⟨e_t8 (List.mem_of_getElem? (i := 5) rfl), by decide +kernel⟩
set_option maxRecDepth 20000 in
theorem e_cm219 : Cond.code yX12_nearest cX12_nearest 5 (some .int) ∈ lw_tbl ∧ plainName yX12_nearest.cls = true := ⟨e_t8 (List.mem_of_getElem? (i := 13) rfl), by decide +kernel⟩
set_option maxRecDepth 20000 in
theorem e_cm220 : Cond.code yX12_isBetter cX12_isBetter 5 (some .boolean) ∈ lw_tbl ∧ plainName yX12_isBetter.cls = true := ⟨e_t8 (List.mem_of_getElem? (i := 17) rfl), by decide +kernel⟩
set_option maxRecDepth 20000 in
theorem e_cm221 : Cond.code yX12_findRings cX12_findRings 4 none ∈ lw_tbl ∧ plainName yX12_findRings.cls = true := ⟨e_t8 (List.mem_of_getElem? (i := 1) rfl), by decide +kernel⟩
set_option maxRecDepth 20000 in
theorem e_cm222 : Cond.code yX12_ring cX12_ring 2 (some .int) ∈ lw_tbl ∧ plainName yX12_ring.cls = true := ⟨e_t8 (List.mem_of_getElem? (i := 85) rfl), by decide +kernel⟩
set_option maxRecDepth 20000 in
theorem e_cm223 : Cond.code yX12_rule cX12_rule 3 (some .int) ∈ lw_tbl ∧ plainName yX12_rule.cls = true := ⟨e_t8 (List.mem_of_getElem? (i := 89) rfl), by decide +kernel⟩
set_option maxRecDepth 20000 in
theorem e_cm224 : Cond.code yX12_limit cX12_limit 3 (some .int) ∈ lw_tbl ∧ plainName yX12_limit.cls = true := ⟨e_t8 (List.mem_of_getElem? (i := 93) rfl), by decide +kernel⟩
set_option maxRecDepth 20000 in
theorem e_cm225 : Cond.code yX12_isGood cX12_isGood 5 (some .boolean) ∈ lw_tbl ∧ plainName yX12_isGood.cls = true := ⟨e_t8 (List.mem_of_getElem? (i := 101) rfl), by decide +kernel⟩
set_option maxRecDepth 20000 in
theorem e_cm226 : Cond.code yX12_act cX12_act 6 (some .int) ∈ lw_tbl ∧ plainName yX12_act.cls = true := ⟨e_t8 (List.mem_of_getElem? (i := 97) rfl), by decide +kernel⟩
set_option maxRecDepth 20000 in
theorem e_cm227 : Cond.code yX12_of cX12_of 5 (some .int) ∈ lw_tbl ∧ plainName yX12_of.cls = true := ⟨e_t8 (List.mem_of_getElem? (i := 105) rfl), by decide +kernel⟩
set_option maxRecDepth 20000 in
theorem e_cm228 : Cond.code yX12_lock cX12_lock 6 (some .int) ∈ lw_tbl ∧ plainName yX12_lock.cls = true := ⟨e_t8 (List.mem_of_getElem? (i := 109) rfl), by decide +kernel⟩
set_option maxRecDepth 20000 in
theorem e_cm229 : Cond.code yX12_waits cX12_waits 6 (some .int) ∈ lw_tbl ∧ plainName yX12_waits.cls = true := ⟨e_t8 (List.mem_of_getElem? (i := 113) rfl), by decide +kernel⟩
set_option maxRecDepth 20000 in
theorem e_cm230 : Cond.code yX12_orderActs cX12_orderActs 5 (some .int) ∈ lw_tbl ∧ plainName yX12_orderActs.cls = true := ⟨e_t8 (List.mem_of_getElem? (i := 125) rfl), by decide +kernel⟩
theorem e_cmc10 : ∀ q ∈ e_ml10, Cond.code q.1 q.2.1 q.2.2.1 q.2.2.2 ∈ lw_tbl ∧ plainName q.1.cls = true := List.forall_mem_cons.mpr ⟨e_cm210, List.forall_mem_cons.mpr ⟨e_cm211, List.forall_mem_cons.mpr ⟨e_cm212, List.forall_mem_cons.mpr ⟨e_cm213, List.forall_mem_cons.mpr ⟨e_cm214, List.forall_mem_cons.mpr ⟨e_cm215, List.forall_mem_cons.mpr ⟨e_cm216, List.forall_mem_cons.mpr ⟨e_cm217, List.forall_mem_cons.mpr ⟨e_cm218, List.forall_mem_cons.mpr ⟨e_cm219, List.forall_mem_cons.mpr ⟨e_cm220, List.forall_mem_cons.mpr ⟨e_cm221, List.forall_mem_cons.mpr ⟨e_cm222, List.forall_mem_cons.mpr ⟨e_cm223, List.forall_mem_cons.mpr ⟨e_cm224, List.forall_mem_cons.mpr ⟨e_cm225, List.forall_mem_cons.mpr ⟨e_cm226, List.forall_mem_cons.mpr ⟨e_cm227, List.forall_mem_cons.mpr ⟨e_cm228, List.forall_mem_cons.mpr ⟨e_cm229, List.forall_mem_cons.mpr ⟨e_cm230, fun _ h => absurd h List.not_mem_nil⟩⟩⟩⟩⟩⟩⟩⟩⟩⟩⟩⟩⟩⟩⟩⟩⟩⟩⟩⟩⟩
set_option maxRecDepth 20000 in
theorem e_cm231 : Cond.code yX12_keepActs cX12_keepActs 6 none ∈ lw_tbl ∧ plainName yX12_keepActs.cls = true := ⟨e_t8 (List.mem_of_getElem? (i := 121) rfl), by decide +kernel⟩
set_option maxRecDepth 20000 in
theorem e_cm232 : Cond.code yX12_end cX12_end 3 (some .int) ∈ lw_tbl ∧ plainName yX12_end.cls = true := ⟨e_t8 (List.mem_of_getElem? (i := 117) rfl), by decide +kernel⟩
set_option maxRecDepth 20000 in
theorem e_cm233 : Cond.code yX12_ended cX12_ended 2 (some .int) ∈ lw_tbl ∧ plainName yX12_ended.cls = true := ⟨e_t8 (List.mem_of_getElem? (i := 129) rfl), by decide +kernel⟩
set_option maxRecDepth 20000 in
theorem e_cm234 : Cond.code yX12_version cX12_version 5 (some .int) ∈ lw_tbl ∧ plainName yX12_version.cls = true := ⟨e_t8 (List.mem_of_getElem? (i := 133) rfl), by decide +kernel⟩
set_option maxRecDepth 20000 in
theorem e_cm235 : Cond.code yX12_serial cX12_serial 7 (some .int) ∈ lw_tbl ∧ plainName yX12_serial.cls = true := ⟨e_t8 (List.mem_of_getElem? (i := 137) rfl), by decide +kernel⟩
set_option maxRecDepth 20000 in
theorem e_cm236 : Cond.code yX12_cut cX12_cut 3 (some .int) ∈ lw_tbl ∧ plainName yX12_cut.cls = true := ⟨e_t8 (List.mem_of_getElem? (i := 145) rfl), by decide +kernel⟩
set_option maxRecDepth 20000 in
theorem e_cm237 : Cond.code yX12_crash cX12_crash 1 (some .int) ∈ lw_tbl ∧ plainName yX12_crash.cls = true := ⟨e_t8 (List.mem_of_getElem? (i := 153) rfl), by decide +kernel⟩
set_option maxRecDepth 20000 in
theorem e_cm238 : Cond.code yX12_smallMany cX12_smallMany 2 (some .int) ∈ lw_tbl ∧ plainName yX12_smallMany.cls = true := ⟨e_t8 (List.mem_of_getElem? (i := 166) rfl), by decide +kernel⟩
set_option maxRecDepth 20000 in
theorem e_cm239 : Cond.code yX12_laySmall cX12_laySmall 5 none ∈ lw_tbl ∧ plainName yX12_laySmall.cls = true := ⟨e_t8 (List.mem_of_getElem? (i := 170) rfl), by decide +kernel⟩
set_option maxRecDepth 20000 in
theorem e_cm240 : Cond.code yX12_isBadTry cX12_isBadTry 4 (some .boolean) ∈ lw_tbl ∧ plainName yX12_isBadTry.cls = true := ⟨e_t8 (List.mem_of_getElem? (i := 162) rfl), by decide +kernel⟩
set_option maxRecDepth 20000 in
theorem e_cm241 : Cond.code yX12_tried cX12_tried 15 (some .int) ∈ lw_tbl ∧ plainName yX12_tried.cls = true := ⟨e_t8 (List.mem_of_getElem? (i := 158) rfl), by decide +kernel⟩
set_option maxRecDepth 20000 in
theorem e_cm242 : Cond.code yX12_count cX12_count 4 (some .int) ∈ lw_tbl ∧ plainName yX12_count.cls = true := ⟨e_t8 (List.mem_of_getElem? (i := 174) rfl), by decide +kernel⟩
set_option maxRecDepth 20000 in
theorem e_cm243 : Cond.code yJ6_bitCount_0f7a4 cJ6_bitCount_0f7a4 1 (some .int) ∈ lw_tbl ∧ plainName yJ6_bitCount_0f7a4.cls = true := ⟨e_t4 (List.mem_of_getElem? (i := 143) rfl), by decide +kernel⟩
set_option maxRecDepth 20000 in
theorem e_cm244 : Cond.code yJx4a65c_init_da8c8 cJx4a65c_init_da8c8 1 none ∈ lw_tbl ∧ plainName yJx4a65c_init_da8c8.cls = true := ⟨e_t1 (List.mem_of_getElem? (i := 89) rfl), by decide +kernel⟩
set_option maxRecDepth 20000 in
theorem e_cm245 : Cond.code yJx4a65c_add_9ea2d cJx4a65c_add_9ea2d 2 (some .boolean) ∈ lw_tbl ∧ plainName yJx4a65c_add_9ea2d.cls = true := ⟨e_t2 (List.mem_of_getElem? (i := 160) rfl), by decide +kernel⟩
set_option maxRecDepth 20000 in
theorem e_cm246 : Cond.code yJx4a65c_add_7a177 cJx4a65c_add_7a177 5 none ∈ lw_tbl ∧ plainName yJx4a65c_add_7a177.cls = true := ⟨e_t4 (List.mem_of_getElem? (i := 75) rfl), by decide +kernel⟩
set_option maxRecDepth 20000 in
theorem e_cm247 : Cond.code yJx4a65c_clear_da8c8 cJx4a65c_clear_da8c8 4 none ∈ lw_tbl ∧ plainName yJx4a65c_clear_da8c8.cls = true := ⟨e_t2 (List.mem_of_getElem? (i := 94) rfl), by decide +kernel⟩
set_option maxRecDepth 20000 in
theorem e_cm248 : Cond.code yJx4a65c_get_915e3 cJx4a65c_get_915e3 2 (some (.object "java/lang/Object")) ∈ lw_tbl ∧ plainName yJx4a65c_get_915e3.cls = true := ⟨e_t3 (List.mem_of_getElem? (i := 114) rfl), by decide +kernel⟩
set_option maxRecDepth 20000 in
theorem e_cm249 : Cond.code yJx4a65c_isEmpty_aae02 cJx4a65c_isEmpty_aae02 1 (some .boolean) ∈ lw_tbl ∧ plainName yJx4a65c_isEmpty_aae02.cls = true := ⟨e_t2 (List.mem_of_getElem? (i := 1) rfl), by decide +kernel⟩
set_option maxRecDepth 20000 in
theorem e_cm250 : Cond.code yJx4a65c_remove_915e3 cJx4a65c_remove_915e3 4 (some (.object "java/lang/Object")) ∈ lw_tbl ∧ plainName yJx4a65c_remove_915e3.cls = true := ⟨e_t3 (List.mem_of_getElem? (i := 200) rfl), by decide +kernel⟩
set_option maxRecDepth 20000 in
theorem e_cm251 : Cond.code yJx4a65c_size_8abf5 cJx4a65c_size_8abf5 1 (some .int) ∈ lw_tbl ∧ plainName yJx4a65c_size_8abf5.cls = true := ⟨e_t2 (List.mem_of_getElem? (i := 235) rfl), by decide +kernel⟩
theorem e_cmc11 : ∀ q ∈ e_ml11, Cond.code q.1 q.2.1 q.2.2.1 q.2.2.2 ∈ lw_tbl ∧ plainName q.1.cls = true := List.forall_mem_cons.mpr ⟨e_cm231, List.forall_mem_cons.mpr ⟨e_cm232, List.forall_mem_cons.mpr ⟨e_cm233, List.forall_mem_cons.mpr ⟨e_cm234, List.forall_mem_cons.mpr ⟨e_cm235, List.forall_mem_cons.mpr ⟨e_cm236, List.forall_mem_cons.mpr ⟨e_cm237, List.forall_mem_cons.mpr ⟨e_cm238, List.forall_mem_cons.mpr ⟨e_cm239, List.forall_mem_cons.mpr ⟨e_cm240, List.forall_mem_cons.mpr ⟨e_cm241, List.forall_mem_cons.mpr ⟨e_cm242, List.forall_mem_cons.mpr ⟨e_cm243, List.forall_mem_cons.mpr ⟨e_cm244, List.forall_mem_cons.mpr ⟨e_cm245, List.forall_mem_cons.mpr ⟨e_cm246, List.forall_mem_cons.mpr ⟨e_cm247, List.forall_mem_cons.mpr ⟨e_cm248, List.forall_mem_cons.mpr ⟨e_cm249, List.forall_mem_cons.mpr ⟨e_cm250, List.forall_mem_cons.mpr ⟨e_cm251, fun _ h => absurd h List.not_mem_nil⟩⟩⟩⟩⟩⟩⟩⟩⟩⟩⟩⟩⟩⟩⟩⟩⟩⟩⟩⟩⟩
theorem e_cma : ∀ q ∈ e_ml, Cond.code q.1 q.2.1 q.2.2.1 q.2.2.2 ∈ lw_tbl ∧ plainName q.1.cls = true := List.forall_mem_append.mpr ⟨e_cmc0, List.forall_mem_append.mpr ⟨e_cmc1, List.forall_mem_append.mpr ⟨e_cmc2, List.forall_mem_append.mpr ⟨e_cmc3, List.forall_mem_append.mpr ⟨e_cmc4, List.forall_mem_append.mpr ⟨e_cmc5, List.forall_mem_append.mpr ⟨e_cmc6, List.forall_mem_append.mpr ⟨e_cmc7, List.forall_mem_append.mpr ⟨e_cmc8, List.forall_mem_append.mpr ⟨e_cmc9, List.forall_mem_append.mpr ⟨e_cmc10, e_cmc11⟩⟩⟩⟩⟩⟩⟩⟩⟩⟩⟩
theorem e_ml_len : e_ml.length = 252 := by decide +kernel
theorem e_code_in {k : Nat} (h : k < 252) : Cond.code (e_y k) (e_c k) (e_mL k) (e_rt k) ∈ e_tb ∧ plainName (e_y k).cls = true := by
  have hk : k < e_ml.length := by rw [e_ml_len]; exact h
  have he : e_mk k = e_ml[k] := by
    unfold e_mk
    rw [List.getD_eq_getElem?_getD, List.getElem?_eq_getElem hk]
    rfl
  have hm := e_cma (e_mk k) (by rw [he]; exact List.getElem_mem hk)
  exact ⟨List.mem_filter.mpr ⟨hm.1, rfl⟩, hm.2⟩
