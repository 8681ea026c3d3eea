/-! the law: its loop, its start, the claim -/
section LM
variable {g : e_G} {p : Program} {e : Env} {m : MethodId} {below : List Frame} {meth : Method} {c : Code} {b L : Nat} {xs : Nat → Int32} {own : Nat} {r0 : Nat × Nat}
theorem l_loop (hg : e_GK g) (hA : e_AK g) (C0 : lw_At p g.2.1 m meth c b L xs) (hL : L ≤ 3072) (ho : own = e_B g) (hr1 : r0.1 = own + 98) (hr2 : r0.2 ≤ 200000) : ∀ (k cc : Nat) (Z : k_Z) (P : k_P) (U : k_U) (r : Nat × Nat) (S : m_S), cc + k = 513 → cc ≤ 512 → V own cc r0 Z P U r S → l_W g p e m below meth c b 18 (l_lv b own (6 * cc)) [] (l_H own Z P U r S)
  | 0, cc, Z, P, U, r, S, h1, h2, _ => by omega
  | k + 1, cc, Z, P, U, r, S, h1, h2, hV => by
    have rm := l_room hV h2
    refine s_iload (i := 3) C0 (by decide +kernel) rfl ?_
    refine s_aload (i := 0) C0 (by decide +kernel) rfl ?_
    refine s_slen C0 (by decide +kernel) ?_
    refine s_bipush (i := 6) (x := 6) C0 (by decide +kernel) rfl ?_
    refine s_isub C0 (by decide +kernel) ?_
    have hd : (nI L - 6).toInt = (L : Int) - 6 := pk_sub_toInt (a := L) (b := 6) (by omega) (by omega)
    refine s_gt (off := 1057) 1081 C0 (by decide +kernel) (by decide) (fun _ => ?_) (fun hlt => ?_)
    · refine s_iconst (i := 1) (x := 1) C0 (by decide +kernel) rfl ?_
      exact s_end C0 (by decide +kernel) (by show r.1 - e_B g ≤ 600000; omega) (by show r.2 ≤ 7302250; omega)
    · have hi : 6 * cc + 6 ≤ L := by
        have h7 : ¬ (nI L - 6).toInt < (nI (6 * cc)).toInt := fun z => hlt (Int32.lt_iff_toInt_lt.mpr z)
        rw [hd, nI_toInt (by omega)] at h7
        omega
      have back : ∀ Z' P' U' r' S', V own (cc + 1) r0 Z' P' U' r' S' → l_W g p e m below meth c b 1075 (l_lv b own (6 * cc)) [] (l_H own Z' P' U' r' S') := fun Z' P' U' r' S' hV' => by
        refine s_iinc (i := 3) (z := 6) (x := nI (6 * cc)) (y := nI (6 * (cc + 1))) C0 (by decide +kernel) rfl (by rw [show Int32.ofInt 6 = nI 6 from rfl, nI_add]; rfl) (show 3 < 4 from by decide) ?_
        refine s_goto (off := -1060) 18 C0 (by decide +kernel) (by decide) ?_
        exact l_loop hg hA C0 hL ho hr1 hr2 k (cc + 1) Z' P' U' r' S' (by omega) (by omega) hV'
      refine s_aload (i := 0) C0 (by decide +kernel) rfl ?_
      refine s_iload (i := 3) C0 (by decide +kernel) rfl ?_
      refine s_sld C0 (by decide +kernel) (vp_in_nI (by omega) (by omega)) ?_
      rw [nI_clamp (by omega)]
      refine s_bipush (i := 31) (x := 31) C0 (by decide +kernel) rfl ?_
      refine s_iand C0 (by decide +kernel) ?_
      obtain ⟨j, hj, ej⟩ := pk_andE (xs (6 * cc)) (m := 31) 5 (by decide)
      rw [ej]
      have cs : ∀ {pc n x y off kc km : Nat}, lc_case pc n x y off kc km = true → TW g own r0 kc km (l_av xs (6 * cc) 1 n) → l_W g p e m below meth c b pc (l_lv b own (6 * cc)) [] (l_H own Z P U r S) := fun hc tw => l_case hg C0 hi hL hc (by omega) ho hr1 hr2 tw hV back
      have jmp : ∀ (t : Nat), (∃ off : Int, (#[139, 182, 215, 238, 261, 284, 307, 330, 363, 386, 409, 432, 495, 528, 571, 614, 637, 660, 683, 706, 719, 742, 755, 788, 811, 844, 907, 970, 983, 1006, 1029] : Array Int)[j]? = some off ∧ (33 : Int) + off = (t : Int)) → j ≤ 30 → l_W g p e m below meth c b t (l_lv b own (6 * cc)) [] (l_H own Z P U r S) → l_W g p e m below meth c b 33 (l_lv b own (6 * cc)) [.int (nI j)] (l_H own Z P U r S) := fun t ht hj30 q => by
        refine s_tsw (d := 1042) (lo := 0) (hi := 30) (offs := #[139, 182, 215, 238, 261, 284, 307, 330, 363, 386, 409, 432, 495, 528, 571, 614, 637, 660, 683, 706, 719, 742, 755, 788, 811, 844, 907, 970, 983, 1006, 1029]) (len := 139) C0 (by decide +kernel) _ (Or.inr ⟨?_, ?_, ?_⟩) q
        · rw [nI_toInt (by omega)]; omega
        · rw [nI_toInt (by omega)]; omega
        · rw [nI_toInt (by omega), Int.sub_zero, Int.toNat_natCast]; exact ht
      show l_W g p e m below meth c b 33 (l_lv b own (6 * cc)) [.int (nI j)] (l_H own Z P U r S)
      match j, hj, jmp with

      | 0, _, jmp => exact jmp 172 ⟨139, rfl, rfl⟩ (by decide) (cs lq_0 (t_make hg hA))
      | 1, _, jmp => exact jmp 215 ⟨182, rfl, rfl⟩ (by decide) (cs lq_1 (t_object hg))
      | 2, _, jmp => exact jmp 248 ⟨215, rfl, rfl⟩ (by decide) (cs lq_2 (t_begin hg hA))
      | 3, _, jmp => exact jmp 271 ⟨238, rfl, rfl⟩ (by decide) (cs lq_3 (t_nest hg hA))
      | 4, _, jmp => exact jmp 294 ⟨261, rfl, rfl⟩ (by decide) (cs lq_4 (t_join hg hA))
      | 5, _, jmp => exact jmp 317 ⟨284, rfl, rfl⟩ (by decide) (cs lq_5 (t_back hg hA))
      | 6, _, jmp => exact jmp 340 ⟨307, rfl, rfl⟩ (by decide) (cs lq_6 (t_save hg hA))
      | 7, _, jmp => exact jmp 363 ⟨330, rfl, rfl⟩ (by decide) (cs lq_7 (t_backTo hg hA))
      | 8, _, jmp => exact jmp 396 ⟨363, rfl, rfl⟩ (by decide) (cs lq_8 (t_end hg hA))
      | 9, _, jmp => exact jmp 419 ⟨386, rfl, rfl⟩ (by decide) (cs lq_9 (t_undo hg hA))
      | 10, _, jmp => exact jmp 442 ⟨409, rfl, rfl⟩ (by decide) (cs lq_10 (t_retry hg hA))
      | 11, _, jmp => exact jmp 465 ⟨432, rfl, rfl⟩ (by decide) (cs lq_11 (t_act hg hA))
      | 12, _, jmp => exact jmp 528 ⟨495, rfl, rfl⟩ (by decide) (cs lq_12 (t_of hg hA))
      | 13, _, jmp => exact jmp 561 ⟨528, rfl, rfl⟩ (by decide) (cs lq_13 (t_lock hg hA))
      | 14, _, jmp => exact jmp 604 ⟨571, rfl, rfl⟩ (by decide) (cs lq_14 (t_waits hg hA))
      | 15, _, jmp => exact jmp 647 ⟨614, rfl, rfl⟩ (by decide) (cs lq_15 (t_ring hg))
      | 16, _, jmp => exact jmp 670 ⟨637, rfl, rfl⟩ (by decide) (cs lq_16 (t_rule hg))
      | 17, _, jmp => exact jmp 693 ⟨660, rfl, rfl⟩ (by decide) (cs lq_17 (t_limit hg))
      | 18, _, jmp => exact jmp 716 ⟨683, rfl, rfl⟩ (by decide) (cs lq_18 (t_group hg))
      | 19, _, jmp => exact jmp 739 ⟨706, rfl, rfl⟩ (by decide) (cs lq_19 (t_rest hg hA))
      | 20, _, jmp => exact jmp 752 ⟨719, rfl, rfl⟩ (by decide) (cs lq_20 (t_cut hg hA))
      | 21, _, jmp => exact jmp 775 ⟨742, rfl, rfl⟩ (by decide) (cs lq_21 (t_crash hg hA))
      | 22, _, jmp => exact jmp 788 ⟨755, rfl, rfl⟩ (by decide) (cs lq_22 (t_row hg hA))
      | 23, _, jmp => exact jmp 821 ⟨788, rfl, rfl⟩ (by decide) (cs lq_23 (t_ended hg hA))
      | 24, _, jmp => exact jmp 844 ⟨811, rfl, rfl⟩ (by decide) (cs lq_24 (t_version hg))
      | 25, _, jmp => exact jmp 877 ⟨844, rfl, rfl⟩ (by decide) (cs lq_25 (t_commute hg))
      | 26, _, jmp => exact jmp 940 ⟨907, rfl, rfl⟩ (by decide) (cs lq_26 (t_tried hg))
      | 27, _, jmp => exact jmp 1003 ⟨970, rfl, rfl⟩ (by decide) (cs lq_27 (t_serial hg hA))
      | 28, _, jmp => exact jmp 1016 ⟨983, rfl, rfl⟩ (by decide) (cs lq_28 (t_trace hg))
      | 29, _, jmp => exact jmp 1039 ⟨1006, rfl, rfl⟩ (by decide) (cs lq_29 (t_count hg hA))
      | 30, _, jmp => exact jmp 1062 ⟨1029, rfl, rfl⟩ (by decide) (cs lq_30 (t_digest hg))
      | 31, _, _ =>
        refine s_tsw (d := 1042) (lo := 0) (hi := 30) (offs := #[139, 182, 215, 238, 261, 284, 307, 330, 363, 386, 409, 432, 495, 528, 571, 614, 637, 660, 683, 706, 719, 742, 755, 788, 811, 844, 907, 970, 983, 1006, 1029]) (len := 139) (t := 1075) C0 (by decide +kernel) _ (Or.inl ⟨by decide, by decide⟩) (back Z P U r S (hV.next (by omega)))
      | j + 32, hj, _ => omega
end LM
