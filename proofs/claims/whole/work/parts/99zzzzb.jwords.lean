/-! the methods of the library that lists are made of: names, codes, words -/
theorem jw_m {w : Cond} (h : w ∈ lw_tbl) (hg : goodWord w = true) : w ∈ e_tb := List.mem_filter.mpr ⟨h, hg⟩
def jm_acin : j_M := ((yJxa1e45_init_da8c8, cJxa1e45_init_da8c8, 1, none), 1, 20)
set_option maxRecDepth 20000 in
theorem jc_acin : Cond.code yJxa1e45_init_da8c8 cJxa1e45_init_da8c8 1 none ∈ e_tb := jw_m (e_t1 (List.mem_of_getElem? (i := 95) rfl)) rfl
set_option maxRecDepth 20000 in
theorem ji_0 : Cond.initialized "java/util/AbstractCollection" ∈ e_tb := jw_m (e_t1 (List.mem_of_getElem? (i := 4) rfl)) rfl
theorem jo_acin : j_ok jm_acin := ⟨jc_acin, by decide +kernel, by decide +kernel, by decide +kernel, ji_0⟩
def jm_alin : j_M := ((yJxc12de_init_da8c8, cJxc12de_init_da8c8, 1, none), 2, 40)
set_option maxRecDepth 20000 in
theorem jc_alin : Cond.code yJxc12de_init_da8c8 cJxc12de_init_da8c8 1 none ∈ e_tb := jw_m (e_t1 (List.mem_of_getElem? (i := 92) rfl)) rfl
set_option maxRecDepth 20000 in
theorem ji_1 : Cond.initialized "java/util/AbstractList" ∈ e_tb := jw_m (e_t1 (List.mem_of_getElem? (i := 5) rfl)) rfl
theorem jo_alin : j_ok jm_alin := ⟨jc_alin, by decide +kernel, by decide +kernel, by decide +kernel, ji_1⟩
def jm_init : j_M := ((yJx4a65c_init_da8c8, cJx4a65c_init_da8c8, 1, none), 3, 60)
set_option maxRecDepth 20000 in
theorem jc_init : Cond.code yJx4a65c_init_da8c8 cJx4a65c_init_da8c8 1 none ∈ e_tb := jw_m (e_t1 (List.mem_of_getElem? (i := 89) rfl)) rfl
set_option maxRecDepth 20000 in
theorem ji_2 : Cond.initialized "java/util/ArrayList" ∈ e_tb := jw_m (e_t1 (List.mem_of_getElem? (i := 6) rfl)) rfl
theorem jo_init : j_ok jm_init := ⟨jc_init, by decide +kernel, by decide +kernel, by decide +kernel, ji_2⟩
def jm_size : j_M := ((yJx4a65c_size_8abf5, cJx4a65c_size_8abf5, 1, (some .int)), 0, 0)
set_option maxRecDepth 20000 in
theorem jc_size : Cond.code yJx4a65c_size_8abf5 cJx4a65c_size_8abf5 1 (some .int) ∈ e_tb := jw_m (e_t2 (List.mem_of_getElem? (i := 235) rfl)) rfl
theorem jo_size : j_ok jm_size := ⟨jc_size, by decide +kernel, by decide +kernel, by decide +kernel, ji_2⟩
def jm_empt : j_M := ((yJx4a65c_isEmpty_aae02, cJx4a65c_isEmpty_aae02, 1, (some .boolean)), 0, 0)
set_option maxRecDepth 20000 in
theorem jc_empt : Cond.code yJx4a65c_isEmpty_aae02 cJx4a65c_isEmpty_aae02 1 (some .boolean) ∈ e_tb := jw_m (e_t2 (List.mem_of_getElem? (i := 1) rfl)) rfl
theorem jo_empt : j_ok jm_empt := ⟨jc_empt, by decide +kernel, by decide +kernel, by decide +kernel, ji_2⟩
def jm_prec : j_M := ((yJ3_checkIndex_8e157, cJ3_checkIndex_8e157, 3, (some .int)), 0, 0)
set_option maxRecDepth 20000 in
theorem jc_prec : Cond.code yJ3_checkIndex_8e157 cJ3_checkIndex_8e157 3 (some .int) ∈ e_tb := jw_m (e_t3 (List.mem_of_getElem? (i := 120) rfl)) rfl
set_option maxRecDepth 20000 in
theorem ji_3 : Cond.initialized "jdk/internal/util/Preconditions" ∈ e_tb := jw_m (e_t1 (List.mem_of_getElem? (i := 21) rfl)) rfl
theorem jo_prec : j_ok jm_prec := ⟨jc_prec, by decide +kernel, by decide +kernel, by decide +kernel, ji_3⟩
def jm_chk : j_M := ((yJ15_checkIndex_7cf53, cJ15_checkIndex_7cf53, 2, (some .int)), 1, 22)
set_option maxRecDepth 20000 in
theorem jc_chk : Cond.code yJ15_checkIndex_7cf53 cJ15_checkIndex_7cf53 2 (some .int) ∈ e_tb := jw_m (e_t3 (List.mem_of_getElem? (i := 117) rfl)) rfl
set_option maxRecDepth 20000 in
theorem ji_4 : Cond.initialized "java/util/Objects" ∈ e_tb := jw_m (e_t1 (List.mem_of_getElem? (i := 20) rfl)) rfl
theorem jo_chk : j_ok jm_chk := ⟨jc_chk, by decide +kernel, by decide +kernel, by decide +kernel, ji_4⟩
def jm_elem : j_M := ((yJx4a65c_elementData_915e3, cJx4a65c_elementData_915e3, 2, (some (.object "java/lang/Object"))), 0, 0)
set_option maxRecDepth 20000 in
theorem jc_elem : Cond.code yJx4a65c_elementData_915e3 cJx4a65c_elementData_915e3 2 (some (.object "java/lang/Object")) ∈ e_tb := jw_m (e_t3 (List.mem_of_getElem? (i := 124) rfl)) rfl
theorem jo_elem : j_ok jm_elem := ⟨jc_elem, by decide +kernel, by decide +kernel, by decide +kernel, ji_2⟩
def jm_get : j_M := ((yJx4a65c_get_915e3, cJx4a65c_get_915e3, 2, (some (.object "java/lang/Object"))), 2, 43)
set_option maxRecDepth 20000 in
theorem jc_get : Cond.code yJx4a65c_get_915e3 cJx4a65c_get_915e3 2 (some (.object "java/lang/Object")) ∈ e_tb := jw_m (e_t3 (List.mem_of_getElem? (i := 114) rfl)) rfl
theorem jo_get : j_ok jm_get := ⟨jc_get, by decide +kernel, by decide +kernel, by decide +kernel, ji_2⟩
def jm_fast : j_M := ((yJx4a65c_fastRemove_b59b0, cJx4a65c_fastRemove_b59b0, 4, none), 1, 26)
set_option maxRecDepth 20000 in
theorem jc_fast : Cond.code yJx4a65c_fastRemove_b59b0 cJx4a65c_fastRemove_b59b0 4 none ∈ e_tb := jw_m (e_t3 (List.mem_of_getElem? (i := 204) rfl)) rfl
theorem jo_fast : j_ok jm_fast := ⟨jc_fast, by decide +kernel, by decide +kernel, by decide +kernel, ji_2⟩
def jm_rem : j_M := ((yJx4a65c_remove_915e3, cJx4a65c_remove_915e3, 4, (some (.object "java/lang/Object"))), 2, 49)
set_option maxRecDepth 20000 in
theorem jc_rem : Cond.code yJx4a65c_remove_915e3 cJx4a65c_remove_915e3 4 (some (.object "java/lang/Object")) ∈ e_tb := jw_m (e_t3 (List.mem_of_getElem? (i := 200) rfl)) rfl
theorem jo_rem : j_ok jm_rem := ⟨jc_rem, by decide +kernel, by decide +kernel, by decide +kernel, ji_2⟩
def jm_clr : j_M := ((yJx4a65c_clear_da8c8, cJx4a65c_clear_da8c8, 4, none), 0, 0)
set_option maxRecDepth 20000 in
theorem jc_clr : Cond.code yJx4a65c_clear_da8c8 cJx4a65c_clear_da8c8 4 none ∈ e_tb := jw_m (e_t2 (List.mem_of_getElem? (i := 94) rfl)) rfl
theorem jo_clr : j_ok jm_clr := ⟨jc_clr, by decide +kernel, by decide +kernel, by decide +kernel, ji_2⟩
def jm_nlen : j_M := ((yJ8_newLength_cabcc, cJ8_newLength_cabcc, 4, (some .int)), 1, 21)
set_option maxRecDepth 20000 in
theorem jc_nlen : Cond.code yJ8_newLength_cabcc cJ8_newLength_cabcc 4 (some .int) ∈ e_tb := jw_m (e_t2 (List.mem_of_getElem? (i := 175) rfl)) rfl
set_option maxRecDepth 20000 in
theorem ji_5 : Cond.initialized "jdk/internal/util/ArraysSupport" ∈ e_tb := jw_m (e_t1 (List.mem_of_getElem? (i := 15) rfl)) rfl
theorem jo_nlen : j_ok jm_nlen := ⟨jc_nlen, by decide +kernel, by decide +kernel, by decide +kernel, ji_5⟩
def jm_cpy3 : j_M := ((yJ7_copyOf_6403c, cJ7_copyOf_6403c, 4, (some (.array (.object "java/lang/Object")))), 1, 26)
set_option maxRecDepth 20000 in
theorem jc_cpy3 : Cond.code yJ7_copyOf_6403c cJ7_copyOf_6403c 4 (some (.array (.object "java/lang/Object"))) ∈ e_tb := jw_m (e_t2 (List.mem_of_getElem? (i := 206) rfl)) rfl
set_option maxRecDepth 20000 in
theorem ji_6 : Cond.initialized "java/util/Arrays" ∈ e_tb := jw_m (e_t1 (List.mem_of_getElem? (i := 17) rfl)) rfl
theorem jo_cpy3 : j_ok jm_cpy3 := ⟨jc_cpy3, by decide +kernel, by decide +kernel, by decide +kernel, ji_6⟩
def jm_cpy2 : j_M := ((yJ7_copyOf_1904c, cJ7_copyOf_1904c, 2, (some (.array (.object "java/lang/Object")))), 2, 49)
set_option maxRecDepth 20000 in
theorem jc_cpy2 : Cond.code yJ7_copyOf_1904c cJ7_copyOf_1904c 2 (some (.array (.object "java/lang/Object"))) ∈ e_tb := jw_m (e_t2 (List.mem_of_getElem? (i := 185) rfl)) rfl
theorem jo_cpy2 : j_ok jm_cpy2 := ⟨jc_cpy2, by decide +kernel, by decide +kernel, by decide +kernel, ji_6⟩
def jm_gro1 : j_M := ((yJx4a65c_grow_92f84, cJx4a65c_grow_92f84, 4, (some (.array (.object "java/lang/Object")))), 3, 70)
set_option maxRecDepth 20000 in
theorem jc_gro1 : Cond.code yJx4a65c_grow_92f84 cJx4a65c_grow_92f84 4 (some (.array (.object "java/lang/Object"))) ∈ e_tb := jw_m (e_t2 (List.mem_of_getElem? (i := 172) rfl)) rfl
theorem jo_gro1 : j_ok jm_gro1 := ⟨jc_gro1, by decide +kernel, by decide +kernel, by decide +kernel, ji_2⟩
def jm_gro0 : j_M := ((yJx4a65c_grow_d5877, cJx4a65c_grow_d5877, 1, (some (.array (.object "java/lang/Object")))), 4, 93)
set_option maxRecDepth 20000 in
theorem jc_gro0 : Cond.code yJx4a65c_grow_d5877 cJx4a65c_grow_d5877 1 (some (.array (.object "java/lang/Object"))) ∈ e_tb := jw_m (e_t2 (List.mem_of_getElem? (i := 168) rfl)) rfl
theorem jo_gro0 : j_ok jm_gro0 := ⟨jc_gro0, by decide +kernel, by decide +kernel, by decide +kernel, ji_2⟩
def jm_padd : j_M := ((yJx4a65c_add_72be8, cJx4a65c_add_72be8, 4, none), 5, 113)
set_option maxRecDepth 20000 in
theorem jc_padd : Cond.code yJx4a65c_add_72be8 cJx4a65c_add_72be8 4 none ∈ e_tb := jw_m (e_t2 (List.mem_of_getElem? (i := 164) rfl)) rfl
theorem jo_padd : j_ok jm_padd := ⟨jc_padd, by decide +kernel, by decide +kernel, by decide +kernel, ji_2⟩
def jm_add : j_M := ((yJx4a65c_add_9ea2d, cJx4a65c_add_9ea2d, 2, (some .boolean)), 6, 136)
set_option maxRecDepth 20000 in
theorem jc_add : Cond.code yJx4a65c_add_9ea2d cJx4a65c_add_9ea2d 2 (some .boolean) ∈ e_tb := jw_m (e_t2 (List.mem_of_getElem? (i := 160) rfl)) rfl
theorem jo_add : j_ok jm_add := ⟨jc_add, by decide +kernel, by decide +kernel, by decide +kernel, ji_2⟩
def jm_rng : j_M := ((yJx4a65c_rangeCheckForAdd_d00df, cJx4a65c_rangeCheckForAdd_d00df, 2, none), 0, 0)
set_option maxRecDepth 20000 in
theorem jc_rng : Cond.code yJx4a65c_rangeCheckForAdd_d00df cJx4a65c_rangeCheckForAdd_d00df 2 none ∈ e_tb := jw_m (e_t4 (List.mem_of_getElem? (i := 79) rfl)) rfl
theorem jo_rng : j_ok jm_rng := ⟨jc_rng, by decide +kernel, by decide +kernel, by decide +kernel, ji_2⟩
def jm_adda : j_M := ((yJx4a65c_add_7a177, cJx4a65c_add_7a177, 5, none), 5, 113)
set_option maxRecDepth 20000 in
theorem jc_adda : Cond.code yJx4a65c_add_7a177 cJx4a65c_add_7a177 5 none ∈ e_tb := jw_m (e_t4 (List.mem_of_getElem? (i := 75) rfl)) rfl
theorem jo_adda : j_ok jm_adda := ⟨jc_adda, by decide +kernel, by decide +kernel, by decide +kernel, ji_2⟩
set_option maxRecDepth 20000 in
theorem jn_elem : Cond.instanceMethod yJx4a65c_elementData_915e3 ∈ e_tb := jw_m (e_t3 (List.mem_of_getElem? (i := 122) rfl)) rfl
set_option maxRecDepth 20000 in
theorem jn_fast : Cond.instanceMethod yJx4a65c_fastRemove_b59b0 ∈ e_tb := jw_m (e_t3 (List.mem_of_getElem? (i := 203) rfl)) rfl
set_option maxRecDepth 20000 in
theorem jn_padd : Cond.instanceMethod yJx4a65c_add_72be8 ∈ e_tb := jw_m (e_t2 (List.mem_of_getElem? (i := 163) rfl)) rfl
set_option maxRecDepth 20000 in
theorem jn_gro0 : Cond.instanceMethod yJx4a65c_grow_d5877 ∈ e_tb := jw_m (e_t2 (List.mem_of_getElem? (i := 167) rfl)) rfl
set_option maxRecDepth 20000 in
theorem jn_gro1 : Cond.instanceMethod yJx4a65c_grow_92f84 ∈ e_tb := jw_m (e_t2 (List.mem_of_getElem? (i := 171) rfl)) rfl
set_option maxRecDepth 20000 in
theorem jn_rng : Cond.instanceMethod yJx4a65c_rangeCheckForAdd_d00df ∈ e_tb := jw_m (e_t4 (List.mem_of_getElem? (i := 78) rfl)) rfl
set_option maxRecDepth 20000 in
theorem jn_alin : Cond.instanceMethod yJxc12de_init_da8c8 ∈ e_tb := jw_m (e_t1 (List.mem_of_getElem? (i := 91) rfl)) rfl
set_option maxRecDepth 20000 in
theorem jn_acin : Cond.instanceMethod yJxa1e45_init_da8c8 ∈ e_tb := jw_m (e_t1 (List.mem_of_getElem? (i := 94) rfl)) rfl
set_option maxRecDepth 20000 in
theorem js_elem : Cond.selects yJx4a65c_elementData_915e3.cls yJx4a65c_elementData_915e3 yJx4a65c_elementData_915e3 ∈ e_tb := jw_m (e_t3 (List.mem_of_getElem? (i := 123) rfl)) rfl
set_option maxRecDepth 20000 in
theorem js_fast : Cond.selects yJx4a65c_fastRemove_b59b0.cls yJx4a65c_fastRemove_b59b0 yJx4a65c_fastRemove_b59b0 ∈ e_tb := jw_m (List.mem_append_left _ (by decide +kernel)) rfl
set_option maxRecDepth 20000 in
theorem js_padd : Cond.selects yJx4a65c_add_72be8.cls yJx4a65c_add_72be8 yJx4a65c_add_72be8 ∈ e_tb := jw_m (List.mem_append_left _ (by decide +kernel)) rfl
set_option maxRecDepth 20000 in
theorem js_gro0 : Cond.selects yJx4a65c_grow_d5877.cls yJx4a65c_grow_d5877 yJx4a65c_grow_d5877 ∈ e_tb := jw_m (List.mem_append_left _ (by decide +kernel)) rfl
set_option maxRecDepth 20000 in
theorem js_gro1 : Cond.selects yJx4a65c_grow_92f84.cls yJx4a65c_grow_92f84 yJx4a65c_grow_92f84 ∈ e_tb := jw_m (List.mem_append_left _ (by decide +kernel)) rfl
set_option maxRecDepth 20000 in
theorem js_rng : Cond.selects yJx4a65c_rangeCheckForAdd_d00df.cls yJx4a65c_rangeCheckForAdd_d00df yJx4a65c_rangeCheckForAdd_d00df ∈ e_tb := jw_m (List.mem_append_left _ (by decide +kernel)) rfl
set_option maxRecDepth 20000 in
theorem jt_prec : Cond.static yJ3_checkIndex_8e157 ∈ e_tb := jw_m (e_t3 (List.mem_of_getElem? (i := 119) rfl)) rfl
set_option maxRecDepth 20000 in
theorem jt_chk : Cond.static yJ15_checkIndex_7cf53 ∈ e_tb := jw_m (e_t3 (List.mem_of_getElem? (i := 116) rfl)) rfl
set_option maxRecDepth 20000 in
theorem jt_nlen : Cond.static yJ8_newLength_cabcc ∈ e_tb := jw_m (e_t2 (List.mem_of_getElem? (i := 174) rfl)) rfl
set_option maxRecDepth 20000 in
theorem jt_cpy2 : Cond.static yJ7_copyOf_1904c ∈ e_tb := jw_m (e_t2 (List.mem_of_getElem? (i := 184) rfl)) rfl
set_option maxRecDepth 20000 in
theorem jt_cpy3 : Cond.static yJ7_copyOf_6403c ∈ e_tb := jw_m (e_t2 (List.mem_of_getElem? (i := 205) rfl)) rfl
set_option maxRecDepth 20000 in
theorem jf_9 : Cond.fieldLink "java/util/ArrayList" 9 "java/util/ArrayList" "elementData" "[Ljava/lang/Object;" ∈ e_tb := jw_m (e_t1 (List.mem_of_getElem? (i := 99) rfl)) rfl
set_option maxRecDepth 20000 in
theorem jf_48 : Cond.fieldLink "java/util/ArrayList" 48 "java/util/ArrayList" "size" "I" ∈ e_tb := jw_m (e_t1 (List.mem_of_getElem? (i := 100) rfl)) rfl
set_option maxRecDepth 20000 in
theorem jf_63 : Cond.fieldLink "java/util/ArrayList" 63 "java/util/ArrayList" "modCount" "I" ∈ e_tb := jw_m (e_t1 (List.mem_of_getElem? (i := 102) rfl)) rfl
set_option maxRecDepth 20000 in
theorem jf_39 : Cond.fieldLink "java/util/ArrayList" 39 "java/util/ArrayList" "DEFAULTCAPACITY_EMPTY_ELEMENTDATA" "[Ljava/lang/Object;" ∈ e_tb := jw_m (e_t1 (List.mem_of_getElem? (i := 97) rfl)) rfl
set_option maxRecDepth 20000 in
theorem jf_7 : Cond.fieldLink "java/util/AbstractList" 7 "java/util/AbstractList" "modCount" "I" ∈ e_tb := jw_m (e_t1 (List.mem_of_getElem? (i := 101) rfl)) rfl
set_option maxRecDepth 20000 in
theorem jf_s : Cond.sameField "java/util/ArrayList" "java/util/AbstractList" "modCount" "I" ∈ e_tb := jw_m (e_t1 (List.mem_of_getElem? (i := 103) rfl)) rfl
set_option maxRecDepth 20000 in
theorem jl_alin : Cond.methodLink "java/util/ArrayList" 1 yJxc12de_init_da8c8 ∈ e_tb := jw_m (e_t1 (List.mem_of_getElem? (i := 90) rfl)) rfl
set_option maxRecDepth 20000 in
theorem jl_acin : Cond.methodLink "java/util/AbstractList" 1 yJxa1e45_init_da8c8 ∈ e_tb := jw_m (e_t1 (List.mem_of_getElem? (i := 93) rfl)) rfl
set_option maxRecDepth 20000 in
theorem jl_obj : Cond.methodLink "java/util/AbstractCollection" 1 objectInit ∈ e_tb := jw_m (e_t1 (List.mem_of_getElem? (i := 96) rfl)) rfl
set_option maxRecDepth 20000 in
theorem jl_padd : Cond.methodLink "java/util/ArrayList" 131 yJx4a65c_add_72be8 ∈ e_tb := jw_m (e_t2 (List.mem_of_getElem? (i := 161) rfl)) rfl
set_option maxRecDepth 20000 in
theorem jl_gro0 : Cond.methodLink "java/util/ArrayList" 129 yJx4a65c_grow_d5877 ∈ e_tb := jw_m (e_t2 (List.mem_of_getElem? (i := 165) rfl)) rfl
set_option maxRecDepth 20000 in
theorem jl_gro1 : Cond.methodLink "java/util/ArrayList" 69 yJx4a65c_grow_92f84 ∈ e_tb := jw_m (e_t2 (List.mem_of_getElem? (i := 169) rfl)) rfl
set_option maxRecDepth 20000 in
theorem jl_nlen : Cond.methodLink "java/util/ArrayList" 73 yJ8_newLength_cabcc ∈ e_tb := jw_m (e_t2 (List.mem_of_getElem? (i := 173) rfl)) rfl
set_option maxRecDepth 20000 in
theorem jl_max : Cond.methodLink "jdk/internal/util/ArraysSupport" 194 Lib.Math.max.name ∈ e_tb := jw_m (e_t2 (List.mem_of_getElem? (i := 176) rfl)) rfl
set_option maxRecDepth 20000 in
theorem jl_cpy2 : Cond.methodLink "java/util/ArrayList" 66 yJ7_copyOf_1904c ∈ e_tb := jw_m (e_t2 (List.mem_of_getElem? (i := 183) rfl)) rfl
set_option maxRecDepth 20000 in
theorem jl_getC : Cond.methodLink "java/util/Arrays" 86 ⟨"java/lang/Object", "getClass", "()Ljava/lang/Class;"⟩ ∈ e_tb := jw_m (e_t2 (List.mem_of_getElem? (i := 186) rfl)) rfl
set_option maxRecDepth 20000 in
theorem jl_cpy3 : Cond.methodLink "java/util/Arrays" 300 yJ7_copyOf_6403c ∈ e_tb := jw_m (e_t2 (List.mem_of_getElem? (i := 204) rfl)) rfl
set_option maxRecDepth 20000 in
theorem jl_min : Cond.methodLink "java/util/Arrays" 304 Lib.Math.min.name ∈ e_tb := jw_m (e_t2 (List.mem_of_getElem? (i := 210) rfl)) rfl
set_option maxRecDepth 20000 in
theorem jl_ac2 : Cond.methodLink "java/util/Arrays" 150 arraycopyName ∈ e_tb := jw_m (e_t2 (List.mem_of_getElem? (i := 213) rfl)) rfl
set_option maxRecDepth 20000 in
theorem jl_maxA : Cond.methodLink "java/util/ArrayList" 79 Lib.Math.max.name ∈ e_tb := jw_m (e_t2 (List.mem_of_getElem? (i := 214) rfl)) rfl
set_option maxRecDepth 20000 in
theorem jl_chk : Cond.methodLink "java/util/ArrayList" 118 yJ15_checkIndex_7cf53 ∈ e_tb := jw_m (e_t3 (List.mem_of_getElem? (i := 115) rfl)) rfl
set_option maxRecDepth 20000 in
theorem jl_prec : Cond.methodLink "java/util/Objects" 105 yJ3_checkIndex_8e157 ∈ e_tb := jw_m (e_t3 (List.mem_of_getElem? (i := 118) rfl)) rfl
set_option maxRecDepth 20000 in
theorem jl_elem : Cond.methodLink "java/util/ArrayList" 123 yJx4a65c_elementData_915e3 ∈ e_tb := jw_m (e_t3 (List.mem_of_getElem? (i := 121) rfl)) rfl
set_option maxRecDepth 20000 in
theorem jl_fast : Cond.methodLink "java/util/ArrayList" 144 yJx4a65c_fastRemove_b59b0 ∈ e_tb := jw_m (e_t3 (List.mem_of_getElem? (i := 201) rfl)) rfl
set_option maxRecDepth 20000 in
theorem jl_ac : Cond.methodLink "java/util/ArrayList" 112 arraycopyName ∈ e_tb := jw_m (e_t3 (List.mem_of_getElem? (i := 205) rfl)) rfl
set_option maxRecDepth 20000 in
theorem jl_rng : Cond.methodLink "java/util/ArrayList" 135 yJx4a65c_rangeCheckForAdd_d00df ∈ e_tb := jw_m (e_t4 (List.mem_of_getElem? (i := 76) rfl)) rfl
set_option maxRecDepth 20000 in
theorem jk_len : Cond.constant "jdk/internal/util/ArraysSupport" 200 2147483639 ∈ e_tb := jw_m (e_t2 (List.mem_of_getElem? (i := 179) rfl)) rfl
set_option maxRecDepth 20000 in
theorem jd_arr : Cond.classLink "java/util/Arrays" 110 "[Ljava/lang/Object;" ∈ e_tb := jw_m (e_t2 (List.mem_of_getElem? (i := 207) rfl)) rfl
set_option maxRecDepth 20000 in
theorem jd_obj : Cond.classLink "java/util/Arrays" 2 "java/lang/Object" ∈ e_tb := jw_m (e_t2 (List.mem_of_getElem? (i := 209) rfl)) rfl
set_option maxRecDepth 20000 in
theorem jd_ob2 : Cond.classLink "java/util/ArrayList" 7 "java/lang/Object" ∈ e_tb := jw_m (e_t2 (List.mem_of_getElem? (i := 215) rfl)) rfl
set_option maxRecDepth 20000 in
theorem jg_s : Cond.selects "[Ljava/lang/Object;" ⟨"java/lang/Object", "getClass", "()Ljava/lang/Class;"⟩ ⟨"java/lang/Object", "getClass", "()Ljava/lang/Class;"⟩ ∈ e_tb := jw_m (e_t8 (List.mem_of_getElem? (i := 179) rfl)) rfl
set_option maxRecDepth 20000 in
theorem jg_i : Cond.instanceMethod ⟨"java/lang/Object", "getClass", "()Ljava/lang/Class;"⟩ ∈ e_tb := jw_m (e_t2 (List.mem_of_getElem? (i := 187) rfl)) rfl
set_option maxRecDepth 20000 in
theorem jg_n : Cond.native ⟨"java/lang/Object", "getClass", "()Ljava/lang/Class;"⟩ ∈ e_tb := jw_m (e_t2 (List.mem_of_getElem? (i := 203) rfl)) rfl
set_option maxRecDepth 20000 in
theorem je_init : ((e_mk 244, e_fr 244, e_lo 244) : j_M) = jm_init := rfl
set_option maxRecDepth 20000 in
theorem je_add : ((e_mk 245, e_fr 245, e_lo 245) : j_M) = jm_add := rfl
set_option maxRecDepth 20000 in
theorem je_adda : ((e_mk 246, e_fr 246, e_lo 246) : j_M) = jm_adda := rfl
set_option maxRecDepth 20000 in
theorem je_clr : ((e_mk 247, e_fr 247, e_lo 247) : j_M) = jm_clr := rfl
set_option maxRecDepth 20000 in
theorem je_get : ((e_mk 248, e_fr 248, e_lo 248) : j_M) = jm_get := rfl
set_option maxRecDepth 20000 in
theorem je_empt : ((e_mk 249, e_fr 249, e_lo 249) : j_M) = jm_empt := rfl
set_option maxRecDepth 20000 in
theorem je_rem : ((e_mk 250, e_fr 250, e_lo 250) : j_M) = jm_rem := rfl
set_option maxRecDepth 20000 in
theorem je_size : ((e_mk 251, e_fr 251, e_lo 251) : j_M) = jm_size := rfl
