theorem e_wS1 : Cond.fieldLink (e_cn 12) 350 "HoldHouse" "SORTS_OF_KIND" "[I" ∈ e_tb := e_tb_of (i := 915) (by decide +kernel) (by decide +kernel)
theorem e_wS2 : Cond.fieldLink (e_cn 12) 293 "HoldHouse" "SMALL_ONES" "[I" ∈ e_tb := e_tb_of (i := 1234) (by decide +kernel) (by decide +kernel)
/-! a row of instructions, a method: what the symbolic machine says, the machine does -/
def e_len : Instr → Nat
  | .bipush _ => 2
  | .sipush _ => 3
  | .ldc _ => 2
  | .ldc_w _ => 3
  | .ldc2_w _ => 3
  | .iload _ => 2
  | .lload _ => 2
  | .aload _ => 2
  | .istore _ => 2
  | .lstore _ => 2
  | .astore _ => 2
  | .iinc _ _ => 3
  | .goto _ => 3
  | .ifCond _ _ => 3
  | .if_icmp _ _ => 3
  | .if_acmp _ _ => 3
  | .ifnull _ => 3
  | .ifnonnull _ => 3
  | .getfield _ => 3
  | .putfield _ => 3
  | .getstatic _ => 3
  | .newarray _ => 2
  | .anewarray _ => 3
  | .new _ => 3
  | .checkcast _ => 3
  | .invokevirtual _ => 3
  | .invokestatic _ => 3
  | .invokespecial _ => 3
  | _ => 1
def e_nx : Instr → Nat
  | .getstatic _ => 5
  | i => e_len i
def e_trm : Instr → Bool
  | .goto _ => true
  | .tableswitch _ _ _ _ => true
  | .ireturn => true
  | .lreturn => true
  | .areturn => true
  | .return_ => true
  | _ => false
def e_isw : Instr → Bool
  | .tableswitch _ _ _ _ => true
  | _ => false
def e_ctg (pc : Nat) (off : Int) (tg : List Nat) : Bool := decide ((pc : Int) + off = ((tg.getD 0 0 : Nat) : Int))
def e_oks (k o pc : Nat) (i : Instr) (tg : List Nat) : Bool := match i with
  | .goto off => e_ctg pc off tg
  | .ifCond _ off => e_ctg pc off tg
  | .if_icmp _ off => e_ctg pc off tg
  | .if_acmp _ off => e_ctg pc off tg
  | .ifnull off => e_ctg pc off tg
  | .ifnonnull off => e_ctg pc off tg
  | .tableswitch d lo hi offs => e_ctg pc d tg && decide (hi - lo + 1 = (offs.size : Int)) && decide (tg.drop 1 = offs.toList.map (fun o => ((pc : Int) + o).toNat)) && offs.toList.all (fun o => decide (0 ≤ (pc : Int) + o))
  | .putfield x => e_pok k o x
  | .getstatic x => decide (o = 12) && (decide (x = 350) || decide (x = 293)) && decide (decode (e_c k) (pc + 3) = .ok (.iload_n 1, 1)) && decide (decode (e_c k) (pc + 4) = .ok (.iaload, 1))
  | .invokevirtual x => (match e_MT o x with
    | some (0, k', _, _) => e_rmk k k'
    | _ => false)
  | .invokestatic x => (match e_MT o x with
    | some (1, k', _, _) => e_rmk k k'
    | some (3, k', _, _) => e_rmk k k'
    | some (6, _, _, _) => decide (1 ≤ e_fr k) && decide (21 ≤ e_lo k)
    | some (7, _, _, _) => decide (1 ≤ e_fr k) && decide (21 ≤ e_lo k)
    | some (8, _, _, _) => decide (1 ≤ e_fr k) && decide (26 ≤ e_lo k)
    | _ => false)
  | .invokespecial x => (match e_MT o x with
    | some (2, k', _, _) => e_rmk k k'
    | some (4, k', _, _) => e_rmk k k'
    | some (5, _, _, _) => decide (1 ≤ e_fr k) && decide (20 ≤ e_lo k)
    | _ => false)
  | .lreturn => decide (e_rt k = some .long)
  | .areturn => (match e_rt k with
    | some (.object _) => true
    | some (.array _) => true
    | _ => false)
  | .return_ => decide (e_rt k = none)
  | _ => true
section EX
variable {g : e_G} {k o : Nat} {Ψ : e_Q} {pc : Nat} {lv : e_Lv} {st : List Value} {h : e_Hp}
theorem e_w_gets {K : e_K} {x : Nat} (hg : e_GK g) (ho : (e_y k).cls = e_cn o) (hd : decode (e_c k) pc = .ok (.getstatic x, 3)) (h12 : o = 12) (hx : x = 350 ∨ x = 293) (hd1 : decode (e_c k) (pc + 3) = .ok (.iload_n 1, 1)) (hd2 : decode (e_c k) (pc + 4) = .ok (.iaload, 1)) (hK : ∀ lv st h, K lv st h → e_Wm g k Ψ (pc + 5) lv st h)
    (q : e_ldi lv 1 (fun i => vp_in i (e_stI o x).1 ∧ K lv (.int ((e_stI o x).2 i.toNatClampNeg) :: st) h)) : e_Wm g k Ψ pc lv st h := by
  subst h12
  unfold e_ldi at q; split at q
  · rename_i i hi
    obtain ⟨hin, q⟩ := q
    refine e_hstep (Nat.le_refl _) (Nat.le_refl _) (fun {u0 p e s m args below meth c H locs ls R Q} hu0 hm hs hl hb hr hv _ _ kk => ?_) (hK _ _ _ q)
    have hsz := hr.1
    have hS : va_S (e_A g) s.heap H locs := ⟨by rw [hsz]; exact hs, fun q h1 h2 => by
      have hq : q < e_B g := Nat.not_le.mp h2
      rw [hb q hq]; exact (hm.2.2.2.2.2.2.2.2.2.2.1 q hq).symm, hl⟩
    have hkp : ∀ a : Nat, a < g.2.1.heap.size → ¬ e_A g a → s.heap[a]? = g.2.1.heap[a]? := fun a _ h2 => hm.2.2.2.2.2.2.2.2.2.2.1 a (Nat.not_le.mp h2)
    have hal := hm.2.2.2.2.2.2.2.2.1
    obtain ⟨z1, t1, z2, t2, -⟩ := hg.2.2.2.2.2.2
    rcases hx with rfl | rfl
    · refine va_gets hm.1 hm.2.1 ((z1.moved hal).kept hkp) hS (hm.own ho) (ref := "HoldHouse") (hm.w e_wS1) (fun _ h => h) hd ?_
      refine lv_iload_n hm.1 hm.2.1 hd1 rfl (hv.at hi) ?_
      exact va_ti hm.1 hm.2.1 ((t1.moved hal).kept hkp) hS hin rfl hd2 (kk H locs ls hl hb hr hv)
    · refine va_gets hm.1 hm.2.1 ((z2.moved hal).kept hkp) hS (hm.own ho) (ref := "HoldHouse") (hm.w e_wS2) (fun _ h => h) hd ?_
      refine lv_iload_n hm.1 hm.2.1 hd1 rfl (hv.at hi) ?_
      exact va_ti hm.1 hm.2.1 ((t2.moved hal).kept hkp) hS hin rfl hd2 (kk H locs ls hl hb hr hv)
  · exact q.elim
set_option maxHeartbeats 2000000 in
theorem e_step_ok {K : e_K} {i : Instr} {n : Nat} {tg : List Nat} (hg : e_GK g) (ho : (e_y k).cls = e_cn o) (hd : decode (e_c k) pc = .ok (i, n)) (hn : e_isw i = true ∨ n = e_len i) (hok : e_oks k o pc i tg = true) (hK : e_trm i = true ∨ ∀ lv st h, K lv st h → e_Wm g k Ψ (pc + e_nx i) lv st h)
    (q : e_step g k o i tg lv st h (e_Wm g k Ψ) Ψ K) : e_Wm g k Ψ pc lv st h := by
  cases i with
  | aconst_null => (obtain rfl := hn.resolve_left Bool.false_ne_true; exact e_w_null hd (hK.resolve_left Bool.false_ne_true) q)
  | iadd => (obtain rfl := hn.resolve_left Bool.false_ne_true; exact e_w_iadd hd (hK.resolve_left Bool.false_ne_true) q)
  | isub => (obtain rfl := hn.resolve_left Bool.false_ne_true; exact e_w_isub hd (hK.resolve_left Bool.false_ne_true) q)
  | imul => (obtain rfl := hn.resolve_left Bool.false_ne_true; exact e_w_imul hd (hK.resolve_left Bool.false_ne_true) q)
  | idiv => (obtain rfl := hn.resolve_left Bool.false_ne_true; exact e_w_idiv hd (hK.resolve_left Bool.false_ne_true) q)
  | irem => (obtain rfl := hn.resolve_left Bool.false_ne_true; exact e_w_irem hd (hK.resolve_left Bool.false_ne_true) q)
  | iand => (obtain rfl := hn.resolve_left Bool.false_ne_true; exact e_w_iand hd (hK.resolve_left Bool.false_ne_true) q)
  | ior => (obtain rfl := hn.resolve_left Bool.false_ne_true; exact e_w_ior hd (hK.resolve_left Bool.false_ne_true) q)
  | ixor => (obtain rfl := hn.resolve_left Bool.false_ne_true; exact e_w_ixor hd (hK.resolve_left Bool.false_ne_true) q)
  | ishl => (obtain rfl := hn.resolve_left Bool.false_ne_true; exact e_w_ishl hd (hK.resolve_left Bool.false_ne_true) q)
  | ishr => (obtain rfl := hn.resolve_left Bool.false_ne_true; exact e_w_ishr hd (hK.resolve_left Bool.false_ne_true) q)
  | iushr => (obtain rfl := hn.resolve_left Bool.false_ne_true; exact e_w_iushr hd (hK.resolve_left Bool.false_ne_true) q)
  | ineg => (obtain rfl := hn.resolve_left Bool.false_ne_true; exact e_w_ineg hd (hK.resolve_left Bool.false_ne_true) q)
  | i2l => (obtain rfl := hn.resolve_left Bool.false_ne_true; exact e_w_i2l hd (hK.resolve_left Bool.false_ne_true) q)
  | l2i => (obtain rfl := hn.resolve_left Bool.false_ne_true; exact e_w_l2i hd (hK.resolve_left Bool.false_ne_true) q)
  | ladd => (obtain rfl := hn.resolve_left Bool.false_ne_true; exact e_w_ladd hd (hK.resolve_left Bool.false_ne_true) q)
  | land => (obtain rfl := hn.resolve_left Bool.false_ne_true; exact e_w_land hd (hK.resolve_left Bool.false_ne_true) q)
  | lor => (obtain rfl := hn.resolve_left Bool.false_ne_true; exact e_w_lor hd (hK.resolve_left Bool.false_ne_true) q)
  | lneg => (obtain rfl := hn.resolve_left Bool.false_ne_true; exact e_w_lneg hd (hK.resolve_left Bool.false_ne_true) q)
  | lshl => (obtain rfl := hn.resolve_left Bool.false_ne_true; exact e_w_lshl hd (hK.resolve_left Bool.false_ne_true) q)
  | lshr => (obtain rfl := hn.resolve_left Bool.false_ne_true; exact e_w_lshr hd (hK.resolve_left Bool.false_ne_true) q)
  | lcmp => (obtain rfl := hn.resolve_left Bool.false_ne_true; exact e_w_lcmp hd (hK.resolve_left Bool.false_ne_true) q)
  | dup => (obtain rfl := hn.resolve_left Bool.false_ne_true; exact e_w_dup hd (hK.resolve_left Bool.false_ne_true) q)
  | dup2 => (obtain rfl := hn.resolve_left Bool.false_ne_true; exact e_w_dup2 hd (hK.resolve_left Bool.false_ne_true) q)
  | pop => (obtain rfl := hn.resolve_left Bool.false_ne_true; exact e_w_pop hd (hK.resolve_left Bool.false_ne_true) q)
  | iconst x0 => (obtain rfl := hn.resolve_left Bool.false_ne_true; exact e_w_iconst hd (hK.resolve_left Bool.false_ne_true) q)
  | bipush x0 => (obtain rfl := hn.resolve_left Bool.false_ne_true; exact e_w_bipush hd (hK.resolve_left Bool.false_ne_true) q)
  | sipush x0 => (obtain rfl := hn.resolve_left Bool.false_ne_true; exact e_w_sipush hd (hK.resolve_left Bool.false_ne_true) q)
  | lconst x0 => (obtain rfl := hn.resolve_left Bool.false_ne_true; exact e_w_lconst hd (hK.resolve_left Bool.false_ne_true) q)
  | iload x0 => (obtain rfl := hn.resolve_left Bool.false_ne_true; exact e_w_iload hd (hK.resolve_left Bool.false_ne_true) q)
  | iload_n x0 => (obtain rfl := hn.resolve_left Bool.false_ne_true; exact e_w_iload_n hd (hK.resolve_left Bool.false_ne_true) q)
  | lload x0 => (obtain rfl := hn.resolve_left Bool.false_ne_true; exact e_w_lload hd (hK.resolve_left Bool.false_ne_true) q)
  | lload_n x0 => (obtain rfl := hn.resolve_left Bool.false_ne_true; exact e_w_lload_n hd (hK.resolve_left Bool.false_ne_true) q)
  | aload x0 => (obtain rfl := hn.resolve_left Bool.false_ne_true; exact e_w_aload hd (hK.resolve_left Bool.false_ne_true) q)
  | aload_n x0 => (obtain rfl := hn.resolve_left Bool.false_ne_true; exact e_w_aload_n hd (hK.resolve_left Bool.false_ne_true) q)
  | istore x0 => (obtain rfl := hn.resolve_left Bool.false_ne_true; exact e_w_istore hd (hK.resolve_left Bool.false_ne_true) q)
  | istore_n x0 => (obtain rfl := hn.resolve_left Bool.false_ne_true; exact e_w_istore_n hd (hK.resolve_left Bool.false_ne_true) q)
  | lstore x0 => (obtain rfl := hn.resolve_left Bool.false_ne_true; exact e_w_lstore hd (hK.resolve_left Bool.false_ne_true) q)
  | lstore_n x0 => (obtain rfl := hn.resolve_left Bool.false_ne_true; exact e_w_lstore_n hd (hK.resolve_left Bool.false_ne_true) q)
  | astore x0 => (obtain rfl := hn.resolve_left Bool.false_ne_true; exact e_w_astore hd (hK.resolve_left Bool.false_ne_true) q)
  | astore_n x0 => (obtain rfl := hn.resolve_left Bool.false_ne_true; exact e_w_astore_n hd (hK.resolve_left Bool.false_ne_true) q)
  | iinc x0 x1 => (obtain rfl := hn.resolve_left Bool.false_ne_true; exact e_w_iinc hd (hK.resolve_left Bool.false_ne_true) q)
  | ldc x => (obtain rfl := hn.resolve_left Bool.false_ne_true; exact e_w_ldc ho hd (hK.resolve_left Bool.false_ne_true) q)
  | ldc_w x => (obtain rfl := hn.resolve_left Bool.false_ne_true; exact e_w_ldcw ho hd (hK.resolve_left Bool.false_ne_true) q)
  | ldc2_w x => (obtain rfl := hn.resolve_left Bool.false_ne_true; exact e_w_ldc2 ho hd (hK.resolve_left Bool.false_ne_true) q)
  | goto off => (obtain rfl := hn.resolve_left Bool.false_ne_true; exact e_w_goto hd (of_decide_eq_true hok) q)
  | ifCond c off => (obtain rfl := hn.resolve_left Bool.false_ne_true; cases c with | eq => exact e_w_if_eq hd (of_decide_eq_true hok) (hK.resolve_left Bool.false_ne_true) q | ne => exact e_w_if_ne hd (of_decide_eq_true hok) (hK.resolve_left Bool.false_ne_true) q | lt => exact e_w_if_lt hd (of_decide_eq_true hok) (hK.resolve_left Bool.false_ne_true) q | ge => exact e_w_if_ge hd (of_decide_eq_true hok) (hK.resolve_left Bool.false_ne_true) q | gt => exact e_w_if_gt hd (of_decide_eq_true hok) (hK.resolve_left Bool.false_ne_true) q | le => exact e_w_if_le hd (of_decide_eq_true hok) (hK.resolve_left Bool.false_ne_true) q)
  | if_icmp c off => (obtain rfl := hn.resolve_left Bool.false_ne_true; cases c with | eq => exact e_w_icmp_eq hd (of_decide_eq_true hok) (hK.resolve_left Bool.false_ne_true) q | ne => exact e_w_icmp_ne hd (of_decide_eq_true hok) (hK.resolve_left Bool.false_ne_true) q | lt => exact e_w_icmp_lt hd (of_decide_eq_true hok) (hK.resolve_left Bool.false_ne_true) q | ge => exact e_w_icmp_ge hd (of_decide_eq_true hok) (hK.resolve_left Bool.false_ne_true) q | gt => exact e_w_icmp_gt hd (of_decide_eq_true hok) (hK.resolve_left Bool.false_ne_true) q | le => exact e_w_icmp_le hd (of_decide_eq_true hok) (hK.resolve_left Bool.false_ne_true) q)
  | if_acmp c off => (obtain rfl := hn.resolve_left Bool.false_ne_true; cases c with | ne => exact e_w_acmp_ne hd (of_decide_eq_true hok) (hK.resolve_left Bool.false_ne_true) q | eq => exact q.elim)
  | ifnull off => (obtain rfl := hn.resolve_left Bool.false_ne_true; exact e_w_ifnull hd (of_decide_eq_true hok) (hK.resolve_left Bool.false_ne_true) q)
  | ifnonnull off => (obtain rfl := hn.resolve_left Bool.false_ne_true; exact e_w_ifnonnull hd (of_decide_eq_true hok) (hK.resolve_left Bool.false_ne_true) q)
  | tableswitch d lo hi offs =>
    simp only [e_oks, e_ctg, Bool.and_eq_true, decide_eq_true_eq, List.all_eq_true] at hok
    exact e_w_tsw hd hok.1.1.1 hok.1.1.2 hok.1.2 hok.2 q
  | getfield x => (obtain rfl := hn.resolve_left Bool.false_ne_true; exact e_w_getfield hg ho hd (hK.resolve_left Bool.false_ne_true) q)
  | putfield x => (obtain rfl := hn.resolve_left Bool.false_ne_true; exact e_w_putfield hg ho hd hok (hK.resolve_left Bool.false_ne_true) q)
  | iaload => (obtain rfl := hn.resolve_left Bool.false_ne_true; exact e_w_iaload hg hd (hK.resolve_left Bool.false_ne_true) q)
  | baload => (obtain rfl := hn.resolve_left Bool.false_ne_true; exact e_w_baload hg hd (hK.resolve_left Bool.false_ne_true) q)
  | iastore => (obtain rfl := hn.resolve_left Bool.false_ne_true; exact e_w_iastore hg hd (hK.resolve_left Bool.false_ne_true) q)
  | bastore => (obtain rfl := hn.resolve_left Bool.false_ne_true; exact e_w_bastore hg hd (hK.resolve_left Bool.false_ne_true) q)
  | aaload => (obtain rfl := hn.resolve_left Bool.false_ne_true; exact e_w_aaload hg hd (hK.resolve_left Bool.false_ne_true) q)
  | aastore => (obtain rfl := hn.resolve_left Bool.false_ne_true; exact e_w_aastore hg hd (hK.resolve_left Bool.false_ne_true) q)
  | arraylength => (obtain rfl := hn.resolve_left Bool.false_ne_true; exact e_w_alen hg hd (hK.resolve_left Bool.false_ne_true) q)
  | newarray t => (obtain rfl := hn.resolve_left Bool.false_ne_true; cases t with | int => exact e_w_newI hg hd e_wI (hK.resolve_left Bool.false_ne_true) q | boolean => exact e_w_newZ hg hd e_wZ (hK.resolve_left Bool.false_ne_true) q | _ => exact q.elim)
  | anewarray x => (obtain rfl := hn.resolve_left Bool.false_ne_true; exact e_w_anew hg ho hd (hK.resolve_left Bool.false_ne_true) q)
  | new x => (obtain rfl := hn.resolve_left Bool.false_ne_true; exact e_w_new hg ho hd (hK.resolve_left Bool.false_ne_true) q)
  | checkcast x => (obtain rfl := hn.resolve_left Bool.false_ne_true; exact e_w_cast hg ho hd (hK.resolve_left Bool.false_ne_true) q)
  | getstatic x =>
    obtain rfl := hn.resolve_left Bool.false_ne_true
    simp only [e_oks, Bool.and_eq_true, Bool.or_eq_true, decide_eq_true_eq] at hok
    exact e_w_gets hg ho hd hok.1.1.1 hok.1.1.2 hok.1.2 hok.2 (hK.resolve_left Bool.false_ne_true) q
  | invokevirtual x =>
    obtain rfl := hn.resolve_left Bool.false_ne_true
    have hK := hK.resolve_left Bool.false_ne_true
    simp only [e_oks] at hok
    have q : e_cal g (e_MT o x) lv st h K := q
    split at hok
    · rename_i k' n ci hx
      rw [hx] at q
      exact e_w_virt hg ho hd hx hok hK q
    · cases hok
  | invokestatic x =>
    obtain rfl := hn.resolve_left Bool.false_ne_true
    have hK := hK.resolve_left Bool.false_ne_true
    simp only [e_oks] at hok
    have q : e_cal g (e_MT o x) lv st h K := q
    split at hok
    · rename_i k' n ci hx
      rw [hx] at q
      exact e_w_stat ho hd hx hok hK q
    · rename_i k' n ci hx
      rw [hx] at q
      exact e_w_statN ho hd hx hok hK q
    · rename_i k' n ci hx
      rw [hx] at q
      simp only [Bool.and_eq_true, decide_eq_true_eq] at hok
      exact e_w_max ho hd hx hok.1 hok.2 hK q
    · rename_i k' n ci hx
      rw [hx] at q
      simp only [Bool.and_eq_true, decide_eq_true_eq] at hok
      exact e_w_min ho hd hx hok.1 hok.2 hK q
    · rename_i k' n ci hx
      rw [hx] at q
      simp only [Bool.and_eq_true, decide_eq_true_eq] at hok
      exact e_w_copy hg ho hd hx hok.1 hok.2 hK q
    · cases hok
  | invokespecial x =>
    obtain rfl := hn.resolve_left Bool.false_ne_true
    have hK := hK.resolve_left Bool.false_ne_true
    simp only [e_oks] at hok
    have q : e_cal g (e_MT o x) lv st h K := q
    split at hok
    · rename_i k' n ci hx
      rw [hx] at q
      exact e_w_init ho hd hx hok hK q
    · rename_i k' n ci hx
      rw [hx] at q
      exact e_w_initN ho hd hx hok hK q
    · rename_i k' n ci hx
      rw [hx] at q
      simp only [Bool.and_eq_true, decide_eq_true_eq] at hok
      exact e_w_obj ho hd hx hok.1 hok.2 hK q
    · cases hok
  | ireturn => (obtain rfl := hn.resolve_left Bool.false_ne_true; exact e_w_ireturn hd q)
  | lreturn => (obtain rfl := hn.resolve_left Bool.false_ne_true; exact e_w_lreturn hd (of_decide_eq_true hok) q)
  | areturn =>
    obtain rfl := hn.resolve_left Bool.false_ne_true
    simp only [e_oks] at hok
    split at hok
    · rename_i hx; exact e_w_areturn hd hx (Or.inl ⟨_, rfl⟩) q
    · rename_i hx; exact e_w_areturn hd hx (Or.inr ⟨_, rfl⟩) q
    · cases hok
  | return_ => (obtain rfl := hn.resolve_left Bool.false_ne_true; exact e_w_return hd (of_decide_eq_true hok) q)
  | _ => exact q.elim
def e_chkL (k o : Nat) : Nat → List e_En → Nat → Bool
  | pc, [], pe => pc == pe
  | pc, (pc', i, n, tg) :: r, pe => pc == pc' && decide (decode (e_c k) pc = .ok (i, n)) && (e_isw i || n == e_len i) && e_oks k o pc i tg && (e_trm i || e_chkL k o (pc + e_nx i) r pe)
theorem e_exec_ok (hg : e_GK g) (ho : (e_y k).cls = e_cn o) : ∀ (L : List e_En) (pc pe : Nat) (lv : e_Lv) (st : List Value) (h : e_Hp), e_chkL k o pc L pe = true → e_exec g k o L pe lv st h (e_Wm g k Ψ) Ψ → e_Wm g k Ψ pc lv st h
  | [], pc, pe, lv, st, h, hc, q => by
    simp only [e_chkL, beq_iff_eq] at hc
    subst hc
    exact q
  | (pc', i, n, tg) :: r, pc, pe, lv, st, h, hc, q => by
    simp only [e_chkL, Bool.and_eq_true, Bool.or_eq_true, beq_iff_eq, decide_eq_true_eq] at hc
    obtain ⟨⟨⟨⟨-, c2⟩, c3⟩, c4⟩, c5⟩ := hc
    refine e_step_ok hg ho c2 c3 c4 ?_ q
    rcases c5 with c5 | c5
    · exact Or.inl c5
    · exact Or.inr (fun lv st h z => e_exec_ok hg ho r (pc + e_nx i) pe lv st h c5 z)
def e_chk (k o : Nat) (cd : e_Cd) : Bool := decide ((e_y k).cls = e_cn o) && decide (k < 252) && cd.all (fun b => e_chkL k o b.1 b.2.1 b.2.2)
theorem e_Sm_ok {cd : e_Cd} (hg : e_GK g) (hc : e_chk k o cd = true) (q : e_Sm g k o cd Ψ pc lv st h) : e_Wm g k Ψ pc lv st h := by
  simp only [e_chk, Bool.and_eq_true, decide_eq_true_eq, List.all_eq_true] at hc
  refine q (e_Wm g k Ψ) (fun pc lv st h z => ?_)
  unfold e_F at z
  split at z
  · rename_i b hb
    obtain ⟨hm, hp⟩ := e_find hb
    simp only [beq_iff_eq] at hp
    subst hp
    exact e_exec_ok hg hc.1.1 _ _ _ _ _ _ (hc.2 b hm) z
  · exact z.elim
theorem e_in_get : ∀ (av : List Value) (n i : Nat) (v : Value), (e_in av n)[i]? = some (some v) → (lg_sl av)[i]? = some (.val v)
  | [], n, i, v, hx => by
    simp only [e_in, List.getElem?_replicate] at hx
    split at hx <;> cases hx
  | w :: vs, n, i, v, hx => by
    have key : (w.category = 2 ∧ lg_sl (w :: vs) = .val w :: .second :: lg_sl vs) ∨ (w.category = 1 ∧ lg_sl (w :: vs) = .val w :: lg_sl vs) := by
      rcases lv_cat w with z | z
      · exact Or.inr ⟨z, by simp [lg_sl, z]⟩
      · exact Or.inl ⟨z, by simp [lg_sl, z]⟩
    cases w with
    | long x =>
      rcases key with ⟨-, z⟩ | ⟨z, -⟩
      · rw [z]
        simp only [e_in] at hx
        match i, hx with
        | 0, hx => simpa using hx
        | 1, hx => simp at hx
        | i + 2, hx => simpa using e_in_get vs (n - 2) i v (by simpa using hx)
      · simp [Value.category] at z
    | double x =>
      rcases key with ⟨-, z⟩ | ⟨z, -⟩
      · rw [z]
        simp only [e_in] at hx
        match i, hx with
        | 0, hx => simpa using hx
        | 1, hx => simp at hx
        | i + 2, hx => simpa using e_in_get vs (n - 2) i v (by simpa using hx)
      · simp [Value.category] at z
    | _ =>
      rcases key with ⟨z, -⟩ | ⟨-, z⟩
      · simp [Value.category] at z
      · rw [z]
        simp only [e_in] at hx
        match i, hx with
        | 0, hx => simpa using hx
        | i + 1, hx => simpa using e_in_get vs (n - 1) i v (by simpa using hx)
def e_ww : List Value → Nat
  | [] => 0
  | v :: vs => v.category + e_ww vs
theorem e_in_len : ∀ (av : List Value) (n : Nat), e_ww av ≤ n → (e_in av n).length = n
  | [], n, _ => by simp [e_in]
  | w :: vs, n, hn => by
    cases w with
    | long x => simp only [e_ww, Value.category] at hn; simp only [e_in, List.length_cons]; rw [e_in_len vs (n - 2) (by omega)]; omega
    | double x => simp only [e_ww, Value.category] at hn; simp only [e_in, List.length_cons]; rw [e_in_len vs (n - 2) (by omega)]; omega
    | _ => simp only [e_ww, Value.category] at hn; simp only [e_in, List.length_cons]; rw [e_in_len vs (n - 1) (by omega)]; omega
theorem e_sl_len : ∀ (av : List Value), (lg_sl av).length = e_ww av
  | [] => rfl
  | w :: vs => by
    have ih := e_sl_len vs
    rcases lv_cat w with z | z
    · have : lg_sl (w :: vs) = .val w :: lg_sl vs := by simp [lg_sl, z]
      rw [this, List.length_cons, ih]; simp only [e_ww]; omega
    · have : lg_sl (w :: vs) = .val w :: .second :: lg_sl vs := by simp [lg_sl, z]
      rw [this, List.length_cons, List.length_cons, ih]; simp only [e_ww]; omega
/-- a method whose symbolic run comes to Ψ: a call of it does -/
theorem e_run {av : List Value} (hg : e_GK g) (hk : k < 252) (hw : e_ww av ≤ e_mL k) (q : e_Wm g k Ψ 0 (e_in av (e_mL k)) [] h) : e_Sc g k av h Ψ := by
  obtain ⟨r, h', k1, k2, k3, k4⟩ := q
  refine ⟨r, h', k1, k2, k3, ?_⟩
  refine Met.ofW (cc := e_c k) (maxL := e_mL k) (ret := e_rt k) (e_code_in hk).2 rfl ?_
  intro p e s m args below meth c s₁ B hml hv
  obtain ⟨rfl, ⟨hal, hb, hr⟩, hnw⟩ := hv
  have hts := atoms_spec (ws := e_ws k) B.pre
  have hsz := hr.1
  have hB : e_B g ≤ s.heap.size := by
    rcases Nat.lt_or_ge s.heap.size (e_B g) with z | z
    · have e1 := hb s.heap.size z
      have e2 : g.2.1.heap[s.heap.size]? = some g.2.1.heap[s.heap.size] := Array.getElem?_eq_getElem z
      rw [e2] at e1
      simp at e1
    · exact z
  have hm : e_mc g k p s m av.toArray meth c := ⟨B.exec, B.bytes, hml, B.returns, findClass_of_methodNamed B.named, hts, B.notSynchronized, (name_of_methodNamed B.named B.method).1, hal, hnw, hb, hB⟩
  have hl := lv_entry av (n := e_mL k) (by rw [e_sl_len]; exact hw)
  rw [lg_entry_eq]
  generalize hls : (lg_sl av ++ List.replicate (e_mL k - (lg_sl av).length) Slot.unset).toArray = ls at hl ⊢
  have hlv : e_lv ls (e_mL k) (e_in av (e_mL k)) := by
    refine ⟨⟨hl.1, hl.2.1, fun q hq => ?_⟩, e_in_len av _ hw⟩
    obtain ⟨i, v⟩ := q
    have hx := e_in_get av _ i v (e_as_mem.mp hq)
    show ls[i]? = some (.val v)
    rw [← hls, List.getElem?_toArray, List.getElem?_append_left (List.getElem?_eq_some_iff.mp hx).1]
    exact hx
  have key := k4 h.2.2 (Nat.le_refl _) p e s m av.toArray below meth c s.heap [] ls hm (by rw [hsz]; exact Nat.le_refl _) (fun q hq => by cases hq) hb hr hlv
  rw [hsz, Nat.sub_self, Nat.sub_self] at key
  exact key
theorem e_call {av : List Value} {cd : e_Cd} (hg : e_GK g) (hc : e_chk k o cd = true) (hw : e_ww av ≤ e_mL k) (q : e_Sm g k o cd Ψ 0 (e_in av (e_mL k)) [] h) : e_Sc g k av h Ψ := by
  have hk : k < 252 := by
    simp only [e_chk, Bool.and_eq_true, decide_eq_true_eq] at hc
    exact hc.1.2
  exact e_run hg hk hw (e_Sm_ok hg hc q)
end EX
