def e_wvl : List (Nat × Nat × Nat × Nat) := [(2, 585, 0, 119), (0, 1111, 1112, 119), (0, 861, 862, 119), (0, 810, 811, 119), (2, 579, 0, 118), (0, 1092, 1093, 118), (0, 706, 707, 118), (0, 729, 730, 118), (0, 1107, 1108, 118), (0, 1024, 1025, 118), (0, 1029, 33, 118), (2, 824, 0, 122), (0, 869, 870, 122), (0, 877, 878, 122), (0, 888, 16, 122), (0, 1131, 1132, 122), (2, 214, 0, 107), (0, 678, 679, 107), (0, 737, 738, 107), (0, 494, 495, 107), (0, 1173, 1174, 107), (0, 1070, 1071, 107), (0, 1066, 1067, 107), (2, 143, 0, 103), (0, 909, 910, 103), (0, 922, 923, 103), (0, 1268, 1269, 103), (2, 237, 0, 108), (0, 1179, 1180, 108), (0, 1020, 1021, 108), (0, 1004, 1005, 108), (0, 1008, 1009, 108), (0, 1013, 31, 108), (2, 445, 0, 114), (0, 764, 765, 114), (0, 743, 744, 114), (0, 1082, 1083, 114), (0, 1205, 1206, 114), (2, 135, 0, 102), (0, 334, 335, 102), (0, 346, 347, 102), (0, 820, 821, 102), (0, 806, 807, 102), (0, 905, 906, 102), (0, 919, 19, 102), (0, 933, 20, 102), (0, 946, 21, 102), (0, 951, 22, 102), (0, 1245, 1246, 102), (0, 747, 748, 102), (0, 1259, 1260, 102), (0, 1187, 1188, 102), (2, 389, 0, 112), (0, 428, 429, 112), (0, 865, 866, 112), (0, 873, 874, 112), (0, 999, 1000, 112), (0, 1040, 1041, 112), (0, 1050, 1051, 112), (0, 774, 775, 112), (0, 718, 719, 112), (0, 1123, 1124, 112), (0, 436, 437, 112), (0, 1217, 1218, 112), (2, 267, 0, 109), (2, 352, 0, 111), (0, 379, 380, 111), (0, 1192, 1193, 111), (0, 1241, 1242, 111), (0, 424, 425, 111), (0, 420, 421, 111), (0, 416, 417, 111), (0, 1251, 1252, 111), (0, 954, 955, 111), (0, 971, 24, 111), (0, 941, 942, 111), (0, 936, 937, 111), (0, 926, 927, 111), (0, 959, 23, 111), (0, 975, 25, 111), (0, 979, 26, 111), (0, 984, 27, 111), (0, 988, 28, 111), (0, 751, 752, 111), (0, 757, 8, 111), (0, 761, 9, 111), (2, 127, 0, 101), (0, 330, 331, 101), (0, 557, 558, 101), (0, 561, 562, 101), (0, 565, 566, 101), (0, 684, 685, 101), (0, 710, 711, 101), (0, 725, 726, 101), (0, 1054, 1055, 101), (0, 1058, 1059, 101), (0, 1062, 1063, 101), (0, 1088, 1089, 101), (0, 1096, 1097, 101), (0, 1100, 1101, 101), (0, 1115, 1116, 101), (0, 1127, 1128, 101), (0, 1135, 1136, 101), (0, 1139, 1140, 101), (0, 1143, 1144, 101), (0, 1147, 1148, 101), (0, 1151, 1152, 101), (0, 1155, 1156, 101), (0, 1160, 1161, 101), (0, 1197, 1198, 101), (0, 1201, 1202, 101), (0, 1209, 1210, 101), (0, 1213, 1214, 101), (0, 1222, 1223, 101), (0, 1227, 1228, 101), (0, 1255, 1256, 101), (0, 1264, 1265, 101), (0, 1272, 1273, 101), (1, 343, 0, 101), (1, 913, 0, 101), (1, 814, 0, 101), (1, 1104, 0, 101), (1, 881, 0, 101), (1, 884, 0, 101), (1, 1231, 0, 101), (0, 1238, 43, 101), (0, 689, 5, 101), (0, 715, 6, 101), (0, 1277, 44, 101), (0, 1120, 39, 101), (0, 1281, 45, 101), (0, 385, 0, 101), (0, 570, 4, 101), (0, 1037, 35, 101), (0, 771, 10, 101), (0, 1033, 34, 101), (0, 734, 7, 101), (0, 788, 12, 101), (0, 793, 13, 101), (0, 797, 14, 101), (0, 801, 15, 101), (1, 858, 0, 101), (0, 902, 18, 101), (0, 1047, 36, 101), (0, 992, 29, 101), (0, 996, 30, 101), (0, 1017, 32, 101), (0, 1075, 37, 101), (0, 1079, 38, 101), (0, 1165, 40, 101), (0, 1169, 41, 101), (0, 1184, 42, 101), (2, 1286, 0, 110), (1, 1602, 0, 110), (0, 1619, 49, 110), (0, 1606, 46, 110), (0, 1611, 47, 110), (0, 1928, 96, 110), (0, 1920, 95, 110), (0, 1615, 48, 110), (0, 1598, 1599, 110), (0, 1626, 1627, 110), (0, 1630, 1631, 110), (0, 1623, 50, 110), (0, 1634, 1635, 110), (0, 1643, 51, 110), (0, 1638, 1639, 110), (0, 1646, 1647, 110), (0, 1811, 84, 110), (0, 1650, 1651, 110), (1, 1807, 0, 110), (1, 1661, 0, 110), (1, 1658, 0, 110), (0, 1654, 1655, 110), (0, 1815, 85, 110), (0, 1840, 91, 110), (0, 1836, 90, 110), (0, 1824, 87, 110), (0, 1828, 88, 110), (0, 1832, 89, 110), (0, 1820, 86, 110), (0, 1804, 83, 110), (0, 1693, 56, 110), (0, 1677, 53, 110), (0, 1669, 52, 110), (0, 1664, 1665, 110), (0, 1672, 1673, 110), (0, 1713, 61, 110), (0, 1689, 55, 110), (0, 1685, 54, 110), (0, 1680, 1681, 110), (0, 1843, 1844, 110), (0, 1847, 1848, 110), (0, 1851, 1852, 110), (0, 1855, 1856, 110), (0, 1859, 1860, 110), (0, 1709, 60, 110), (0, 1705, 59, 110), (0, 1701, 58, 110), (0, 1697, 57, 110), (1, 1732, 0, 110), (0, 1729, 65, 110), (0, 1725, 64, 110), (0, 1772, 75, 110), (0, 1736, 66, 110), (0, 1768, 74, 110), (0, 1764, 73, 110), (0, 1740, 67, 110), (0, 1760, 72, 110), (0, 1756, 71, 110), (0, 1752, 70, 110), (0, 1748, 69, 110), (0, 1744, 68, 110), (0, 1776, 76, 110), (0, 1800, 82, 110), (0, 1721, 63, 110), (0, 1717, 62, 110), (0, 1788, 79, 110), (0, 1784, 78, 110), (0, 1792, 80, 110), (0, 1796, 81, 110), (0, 1780, 77, 110), (0, 1863, 1864, 110), (0, 1867, 1868, 110), (0, 1871, 1872, 110), (0, 1880, 92, 110), (0, 1875, 1876, 110), (0, 1883, 1884, 110), (0, 1887, 1888, 110), (0, 1891, 1892, 110), (0, 1904, 94, 110), (0, 1900, 93, 110), (0, 1895, 1896, 110), (0, 1907, 1908, 110), (0, 1911, 1912, 110), (0, 1915, 1916, 110), (0, 1923, 1924, 110), (0, 1931, 1932, 110), (0, 1945, 98, 110), (0, 1949, 99, 110), (0, 1941, 97, 110), (0, 1936, 1937, 110), (0, 1952, 1953, 110), (1, 962, 0, 123), (2, 188, 0, 106), (0, 498, 499, 106), (0, 893, 894, 106), (0, 432, 433, 106), (0, 692, 693, 106), (0, 339, 340, 106), (0, 778, 779, 106), (0, 573, 574, 106)]
def e_kd (k : Nat) : Nat := (e_wvl.getD k (9, 0, 0, 0)).1
def e_mwc (k : Nat) : Bool := match e_wvl[k]? with
  | some (0, a, b, c) => decide (lw_tbl[a]? = some (.instanceMethod (e_y k))) && goodWord (.instanceMethod (e_y k)) && decide (lw_tbl[b]? = some (.selects (e_y k).cls (e_y k) (e_y k))) && goodWord (.selects (e_y k).cls (e_y k) (e_y k)) && decide (lw_tbl[c]? = some (.initialized (e_y k).cls)) && goodWord (.initialized (e_y k).cls)
  | some (1, a, _, c) => decide (lw_tbl[a]? = some (.static (e_y k))) && goodWord (.static (e_y k)) && decide (lw_tbl[c]? = some (.initialized (e_y k).cls)) && goodWord (.initialized (e_y k).cls)
  | some (2, a, _, c) => decide (lw_tbl[a]? = some (.instanceMethod (e_y k))) && goodWord (.instanceMethod (e_y k)) && decide ((e_y k).name = "<init>") && decide (lw_tbl[c]? = some (.initialized (e_y k).cls)) && goodWord (.initialized (e_y k).cls)
  | _ => false
set_option maxRecDepth 20000 in
theorem e_mwc_0 : (List.range' 0 42).all e_mwc = true := by decide +kernel
set_option maxRecDepth 20000 in
theorem e_mwc_42 : (List.range' 42 42).all e_mwc = true := by decide +kernel
set_option maxRecDepth 20000 in
theorem e_mwc_84 : (List.range' 84 42).all e_mwc = true := by decide +kernel
set_option maxRecDepth 20000 in
theorem e_mwc_126 : (List.range' 126 42).all e_mwc = true := by decide +kernel
set_option maxRecDepth 20000 in
theorem e_mwc_168 : (List.range' 168 42).all e_mwc = true := by decide +kernel
set_option maxRecDepth 20000 in
theorem e_mwc_210 : (List.range' 210 42).all e_mwc = true := by decide +kernel
theorem e_mwc_ok {k : Nat} (h : k < 252) : e_mwc k = true := by
  by_cases h42 : k < 42
  · exact List.all_eq_true.mp e_mwc_0 k (List.mem_range'.mpr ⟨k - 0, by omega, by omega⟩)
  by_cases h84 : k < 84
  · exact List.all_eq_true.mp e_mwc_42 k (List.mem_range'.mpr ⟨k - 42, by omega, by omega⟩)
  by_cases h126 : k < 126
  · exact List.all_eq_true.mp e_mwc_84 k (List.mem_range'.mpr ⟨k - 84, by omega, by omega⟩)
  by_cases h168 : k < 168
  · exact List.all_eq_true.mp e_mwc_126 k (List.mem_range'.mpr ⟨k - 126, by omega, by omega⟩)
  by_cases h210 : k < 210
  · exact List.all_eq_true.mp e_mwc_168 k (List.mem_range'.mpr ⟨k - 168, by omega, by omega⟩)
  exact List.all_eq_true.mp e_mwc_210 k (List.mem_range'.mpr ⟨k - 210, by omega, by omega⟩)
theorem e_mw {k : Nat} (h : k < 252) : Cond.initialized (e_y k).cls ∈ e_tb ∧ (e_kd k = 0 → Cond.instanceMethod (e_y k) ∈ e_tb ∧ Cond.selects (e_y k).cls (e_y k) (e_y k) ∈ e_tb) ∧ (e_kd k = 1 → Cond.static (e_y k) ∈ e_tb) ∧ (e_kd k = 2 → Cond.instanceMethod (e_y k) ∈ e_tb ∧ (e_y k).name = "<init>") := by
  have hx := e_mwc_ok h
  unfold e_mwc at hx
  split at hx
  · rename_i a b c hk
    have hd : e_kd k = 0 := by unfold e_kd; rw [List.getD_eq_getElem?_getD, hk]; rfl
    simp only [Bool.and_eq_true, decide_eq_true_eq] at hx
    obtain ⟨⟨⟨⟨⟨x1, x2⟩, x3⟩, x4⟩, x5⟩, x6⟩ := hx
    exact ⟨e_tb_of x5 x6, fun _ => ⟨e_tb_of x1 x2, e_tb_of x3 x4⟩, fun z => by omega, fun z => by omega⟩
  · rename_i a b c hk
    have hd : e_kd k = 1 := by unfold e_kd; rw [List.getD_eq_getElem?_getD, hk]; rfl
    simp only [Bool.and_eq_true, decide_eq_true_eq] at hx
    obtain ⟨⟨⟨x1, x2⟩, x5⟩, x6⟩ := hx
    exact ⟨e_tb_of x5 x6, fun z => by omega, fun _ => e_tb_of x1 x2, fun z => by omega⟩
  · rename_i a b c hk
    have hd : e_kd k = 2 := by unfold e_kd; rw [List.getD_eq_getElem?_getD, hk]; rfl
    simp only [Bool.and_eq_true, decide_eq_true_eq] at hx
    obtain ⟨⟨⟨⟨x1, x2⟩, x3⟩, x5⟩, x6⟩ := hx
    exact ⟨e_tb_of x5 x6, fun z => by omega, fun z => by omega, fun _ => ⟨e_tb_of x1 x2, x3⟩⟩
  · cases hx
/-- of a link of a method: own, index, kind, method, arguments, class, place -/
def e_MTc (e : Nat × Nat × Nat × Nat × Nat × Nat × Nat) : Bool := match e with
  | (o, x, 0, k, n, ci, p) => decide (k < 252) && e_kd k == 0 && decide (lw_tbl[p]? = some (.methodLink (e_cn o) x (e_y k))) && goodWord (.methodLink (e_cn o) x (e_y k)) && decide ((parseMethodDescriptor (e_y k).desc).map (fun d => d.parameters.length) = some n) && decide ((vwCl[ci]?).map (fun r => r.1) = some (e_y k).cls)
  | (o, x, 1, k, n, _, p) => decide (k < 252) && e_kd k == 1 && decide (lw_tbl[p]? = some (.methodLink (e_cn o) x (e_y k))) && goodWord (.methodLink (e_cn o) x (e_y k)) && decide ((parseMethodDescriptor (e_y k).desc).map (fun d => d.parameters.length) = some n)
  | (o, x, 2, k, n, _, p) => decide (k < 252) && e_kd k == 2 && decide (lw_tbl[p]? = some (.methodLink (e_cn o) x (e_y k))) && goodWord (.methodLink (e_cn o) x (e_y k)) && decide ((parseMethodDescriptor (e_y k).desc).map (fun d => d.parameters.length) = some n) && decide (e_rt k = none)
  | (o, x, 3, k, n, _, p) => decide (k < 252) && e_kd k == 1 && decide (lw_tbl[p]? = some (.methodLinkNest (e_cn o) x (e_y k) "HoldHouse")) && decide ((parseMethodDescriptor (e_y k).desc).map (fun d => d.parameters.length) = some n)
  | (o, x, 4, k, n, _, p) => decide (k < 252) && e_kd k == 2 && decide (lw_tbl[p]? = some (.methodLinkNest (e_cn o) x (e_y k) "HoldHouse")) && decide ((parseMethodDescriptor (e_y k).desc).map (fun d => d.parameters.length) = some n) && decide (e_rt k = none)
  | (o, x, 5, _, _, _, p) => decide (lw_tbl[p]? = some (.methodLink (e_cn o) x objectInit)) && goodWord (.methodLink (e_cn o) x objectInit)
  | (o, x, 6, _, _, _, p) => decide (lw_tbl[p]? = some (.methodLink (e_cn o) x Lib.Math.max.name)) && goodWord (.methodLink (e_cn o) x Lib.Math.max.name)
  | (o, x, 7, _, _, _, p) => decide (lw_tbl[p]? = some (.methodLink (e_cn o) x Lib.Math.min.name)) && goodWord (.methodLink (e_cn o) x Lib.Math.min.name)
  | (o, x, 8, _, _, _, p) => decide (lw_tbl[p]? = some (.methodLink (e_cn o) x arraycopyName)) && goodWord (.methodLink (e_cn o) x arraycopyName)
  | _ => false
set_option maxRecDepth 20000 in
theorem e_MTc_0 : ((e_MTl.drop 0).take 52).all e_MTc = true := by decide +kernel
set_option maxRecDepth 20000 in
theorem e_MTc_52 : ((e_MTl.drop 52).take 52).all e_MTc = true := by decide +kernel
set_option maxRecDepth 20000 in
theorem e_MTc_104 : ((e_MTl.drop 104).take 52).all e_MTc = true := by decide +kernel
set_option maxRecDepth 20000 in
theorem e_MTc_156 : ((e_MTl.drop 156).take 52).all e_MTc = true := by decide +kernel
set_option maxRecDepth 20000 in
theorem e_MTc_208 : ((e_MTl.drop 208).take 52).all e_MTc = true := by decide +kernel
set_option maxRecDepth 20000 in
theorem e_MTc_260 : ((e_MTl.drop 260).take 44).all e_MTc = true := by decide +kernel
theorem e_MTc_ok : ∀ e ∈ e_MTl, e_MTc e = true := by
  intro e he
  obtain ⟨j, hj⟩ := List.getElem?_of_mem he
  have key : ∀ a b : Nat, a ≤ j → j < a + b → e ∈ (e_MTl.drop a).take b := fun a b h1 h2 => List.mem_of_getElem? (i := j - a) (by rw [List.getElem?_take, if_pos (by omega), List.getElem?_drop, show a + (j - a) = j by omega]; exact hj)
  have hl : j < 304 := by
    have := (List.getElem?_eq_some_iff.mp hj).1
    rw [show e_MTl.length = 304 by decide +kernel] at this
    exact this
  by_cases h52 : j < 52
  · exact List.all_eq_true.mp e_MTc_0 e (key 0 52 (by omega) (by omega))
  by_cases h104 : j < 104
  · exact List.all_eq_true.mp e_MTc_52 e (key 52 52 (by omega) (by omega))
  by_cases h156 : j < 156
  · exact List.all_eq_true.mp e_MTc_104 e (key 104 52 (by omega) (by omega))
  by_cases h208 : j < 208
  · exact List.all_eq_true.mp e_MTc_156 e (key 156 52 (by omega) (by omega))
  by_cases h260 : j < 260
  · exact List.all_eq_true.mp e_MTc_208 e (key 208 52 (by omega) (by omega))
  exact List.all_eq_true.mp e_MTc_260 e (key 260 44 (by omega) (by omega))
theorem e_wI : Cond.arrayClass .int ∈ e_tb := e_tb_of (i := 170) (by decide +kernel) rfl
theorem e_wZ : Cond.arrayClass .boolean ∈ e_tb := e_tb_of (i := 1596) (by decide +kernel) rfl
theorem e_wOi : Cond.instanceMethod objectInit ∈ e_tb := e_tb_of (i := 130) (by decide +kernel) (by decide +kernel)
theorem e_wAs : Cond.static arraycopyName ∈ e_tb := e_tb_of (i := 440) (by decide +kernel) (by decide +kernel)
theorem e_wAn : Cond.native arraycopyName ∈ e_tb := e_tb_of (i := 441) (by decide +kernel) (by decide +kernel)
theorem e_wAi : Cond.initialized "java/lang/System" ∈ e_tb := e_tb_of (i := 113) (by decide +kernel) (by decide +kernel)
theorem e_wMaxs : Cond.static Lib.Math.max.name ∈ e_tb := e_tb_of (i := 517) (by decide +kernel) (by decide +kernel)
theorem e_wMins : Cond.static Lib.Math.min.name ∈ e_tb := e_tb_of (i := 551) (by decide +kernel) (by decide +kernel)
theorem e_wMi : Cond.initialized "java/lang/Math" ∈ e_tb := e_tb_of (i := 116) (by decide +kernel) (by decide +kernel)
theorem e_wOc : Cond.code objectInit ⟨#[0xb1]⟩ 1 none ∈ e_tb := e_tb_of (i := 131) (by decide +kernel) rfl
theorem e_wMaxc : Cond.code Lib.Math.max.name Lib.Math.max.code 2 (some .int) ∈ e_tb := e_tb_of (i := 518) (by decide +kernel) rfl
theorem e_wMinc : Cond.code Lib.Math.min.name Lib.Math.min.code 2 (some .int) ∈ e_tb := e_tb_of (i := 552) (by decide +kernel) rfl
