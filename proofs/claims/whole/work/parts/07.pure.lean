/-! the machine does what the symbolic machine says: instructions that leave the heap -/
section PU
variable {g : e_G} {k : Nat} {Ψ : e_Q} {pc n : Nat} {lv : e_Lv} {st : List Value} {h : e_Hp}
theorem e_w_null {K : e_K} (hd : decode (e_c k) pc = .ok (.aconst_null, 1)) (hK : ∀ lv st h, K lv st h → e_Wm g k Ψ (pc + 1) lv st h) (q : K lv (.null :: st) h) : e_Wm g k Ψ pc lv st h :=
  e_pure (fun hm hv kk => lv_null hm.1 hm.2.1 hd (kk _ hv)) (hK _ _ _ q)
theorem e_w_iconst {K : e_K} {i : Int} (hd : decode (e_c k) pc = .ok (.iconst i, 1)) (hK : ∀ lv st h, K lv st h → e_Wm g k Ψ (pc + 1) lv st h) (q : K lv (.int (Int32.ofInt i) :: st) h) : e_Wm g k Ψ pc lv st h :=
  e_pure (fun hm hv kk => lv_iconst hm.1 hm.2.1 hd rfl (kk _ hv)) (hK _ _ _ q)
theorem e_w_bipush {K : e_K} {i : Int} (hd : decode (e_c k) pc = .ok (.bipush i, 2)) (hK : ∀ lv st h, K lv st h → e_Wm g k Ψ (pc + 2) lv st h) (q : K lv (.int (Int8.ofInt i).toInt32 :: st) h) : e_Wm g k Ψ pc lv st h :=
  e_pure (fun hm hv kk => lv_bipush hm.1 hm.2.1 hd rfl (kk _ hv)) (hK _ _ _ q)
theorem e_w_sipush {K : e_K} {i : Int} (hd : decode (e_c k) pc = .ok (.sipush i, 3)) (hK : ∀ lv st h, K lv st h → e_Wm g k Ψ (pc + 3) lv st h) (q : K lv (.int (Int16.ofInt i).toInt32 :: st) h) : e_Wm g k Ψ pc lv st h :=
  e_pure (fun hm hv kk => lv_sipush hm.1 hm.2.1 hd rfl (kk _ hv)) (hK _ _ _ q)
theorem e_w_lconst {K : e_K} {i : Fin 2} (hd : decode (e_c k) pc = .ok (.lconst i, 1)) (hK : ∀ lv st h, K lv st h → e_Wm g k Ψ (pc + 1) lv st h) (q : K lv (.long (Int64.ofNat (i : Nat)) :: st) h) : e_Wm g k Ψ pc lv st h :=
  e_pure (fun hm hv kk => lv_lconst hm.1 hm.2.1 hd rfl (kk _ hv)) (hK _ _ _ q)
theorem e_w_iload {K : e_K} {i : Nat} (hd : decode (e_c k) pc = .ok (.iload i, 2)) (hK : ∀ lv st h, K lv st h → e_Wm g k Ψ (pc + 2) lv st h) (q : e_ldi lv i (fun x => K lv (.int x :: st) h)) : e_Wm g k Ψ pc lv st h := by
  unfold e_ldi at q; split at q
  · rename_i x hx
    exact e_pure (fun hm hv kk => lv_iload hm.1 hm.2.1 hd (hv.at hx) (kk _ hv)) (hK _ _ _ q)
  · exact q.elim
theorem e_w_iload_n {K : e_K} {i : Fin 4} (hd : decode (e_c k) pc = .ok (.iload_n i, 1)) (hK : ∀ lv st h, K lv st h → e_Wm g k Ψ (pc + 1) lv st h) (q : e_ldi lv (i : Nat) (fun x => K lv (.int x :: st) h)) : e_Wm g k Ψ pc lv st h := by
  unfold e_ldi at q; split at q
  · rename_i x hx
    exact e_pure (fun hm hv kk => lv_iload_n hm.1 hm.2.1 hd rfl (hv.at hx) (kk _ hv)) (hK _ _ _ q)
  · exact q.elim
theorem e_w_lload {K : e_K} {i : Nat} (hd : decode (e_c k) pc = .ok (.lload i, 2)) (hK : ∀ lv st h, K lv st h → e_Wm g k Ψ (pc + 2) lv st h) (q : e_ldl lv i (fun x => K lv (.long x :: st) h)) : e_Wm g k Ψ pc lv st h := by
  unfold e_ldl at q; split at q
  · rename_i x hx
    exact e_pure (fun hm hv kk => lv_lload hm.1 hm.2.1 hd (hv.at hx) (kk _ hv)) (hK _ _ _ q)
  · exact q.elim
theorem e_w_lload_n {K : e_K} {i : Fin 4} (hd : decode (e_c k) pc = .ok (.lload_n i, 1)) (hK : ∀ lv st h, K lv st h → e_Wm g k Ψ (pc + 1) lv st h) (q : e_ldl lv (i : Nat) (fun x => K lv (.long x :: st) h)) : e_Wm g k Ψ pc lv st h := by
  unfold e_ldl at q; split at q
  · rename_i x hx
    exact e_pure (fun hm hv kk => lv_lload_n hm.1 hm.2.1 hd rfl (hv.at hx) (kk _ hv)) (hK _ _ _ q)
  · exact q.elim
theorem e_w_aload {K : e_K} {i : Nat} (hd : decode (e_c k) pc = .ok (.aload i, 2)) (hK : ∀ lv st h, K lv st h → e_Wm g k Ψ (pc + 2) lv st h) (q : e_lda lv i (fun x => K lv (x :: st) h)) : e_Wm g k Ψ pc lv st h := by
  unfold e_lda at q; split at q
  · rename_i x hx
    exact e_pure (fun hm hv kk => lv_aload hm.1 hm.2.1 hd (hv.at hx) (kk _ hv)) (hK _ _ _ q)
  · rename_i hx
    exact e_pure (fun hm hv kk => lv_aloadN hm.1 hm.2.1 hd (hv.at hx) (kk _ hv)) (hK _ _ _ q)
  · exact q.elim
theorem e_w_aload_n {K : e_K} {i : Fin 4} (hd : decode (e_c k) pc = .ok (.aload_n i, 1)) (hK : ∀ lv st h, K lv st h → e_Wm g k Ψ (pc + 1) lv st h) (q : e_lda lv (i : Nat) (fun x => K lv (x :: st) h)) : e_Wm g k Ψ pc lv st h := by
  unfold e_lda at q; split at q
  · rename_i x hx
    exact e_pure (fun hm hv kk => lv_aload_n hm.1 hm.2.1 hd rfl (hv.at hx) (kk _ hv)) (hK _ _ _ q)
  · rename_i hx
    exact e_pure (fun hm hv kk => lv_aload_nN hm.1 hm.2.1 hd rfl (hv.at hx) (kk _ hv)) (hK _ _ _ q)
  · exact q.elim
theorem e_w_istore {K : e_K} {i : Nat} (hd : decode (e_c k) pc = .ok (.istore i, 2)) (hK : ∀ lv st h, K lv st h → e_Wm g k Ψ (pc + 2) lv st h) (q : e_p1i st (fun x r => e_sto lv i (.int x) (fun lv => K lv r h))) : e_Wm g k Ψ pc lv st h := by
  unfold e_p1i at q; split at q
  · exact e_pure (fun hm hv kk => lv_istore hm.1 hm.2.1 hd hv.1 (by rw [← hv.2]; exact q.1) rfl (fun ls' hl' => kk ls' (hv.st1 hl'))) (hK _ _ _ q.2)
  · exact q.elim
theorem e_w_istore_n {K : e_K} {i : Fin 4} (hd : decode (e_c k) pc = .ok (.istore_n i, 1)) (hK : ∀ lv st h, K lv st h → e_Wm g k Ψ (pc + 1) lv st h) (q : e_p1i st (fun x r => e_sto lv (i : Nat) (.int x) (fun lv => K lv r h))) : e_Wm g k Ψ pc lv st h := by
  unfold e_p1i at q; split at q
  · exact e_pure (fun hm hv kk => lv_istore_n hm.1 hm.2.1 hd rfl hv.1 (by rw [← hv.2]; exact q.1) rfl (fun ls' hl' => kk ls' (hv.st1 hl'))) (hK _ _ _ q.2)
  · exact q.elim
theorem e_w_lstore {K : e_K} {i : Nat} (hd : decode (e_c k) pc = .ok (.lstore i, 2)) (hK : ∀ lv st h, K lv st h → e_Wm g k Ψ (pc + 2) lv st h) (q : e_p1l st (fun x r => e_sto2 lv i (.long x) (fun lv => K lv r h))) : e_Wm g k Ψ pc lv st h := by
  unfold e_p1l at q; split at q
  · exact e_pure (fun hm hv kk => lv_lstore hm.1 hm.2.1 hd hv.1 (by rw [← hv.2]; exact q.1) rfl (fun ls' hl' => kk ls' (hv.st2 hl'))) (hK _ _ _ q.2)
  · exact q.elim
theorem e_w_lstore_n {K : e_K} {i : Fin 4} (hd : decode (e_c k) pc = .ok (.lstore_n i, 1)) (hK : ∀ lv st h, K lv st h → e_Wm g k Ψ (pc + 1) lv st h) (q : e_p1l st (fun x r => e_sto2 lv (i : Nat) (.long x) (fun lv => K lv r h))) : e_Wm g k Ψ pc lv st h := by
  unfold e_p1l at q; split at q
  · exact e_pure (fun hm hv kk => lv_lstore_n hm.1 hm.2.1 hd rfl hv.1 (by rw [← hv.2]; exact q.1) rfl (fun ls' hl' => kk ls' (hv.st2 hl'))) (hK _ _ _ q.2)
  · exact q.elim
theorem e_w_astore {K : e_K} {i : Nat} (hd : decode (e_c k) pc = .ok (.astore i, 2)) (hK : ∀ lv st h, K lv st h → e_Wm g k Ψ (pc + 2) lv st h) (q : e_p1a st (fun x r => e_sto lv i x (fun lv => K lv r h))) : e_Wm g k Ψ pc lv st h := by
  unfold e_p1a at q; split at q
  · exact e_pure (fun hm hv kk => lv_astore hm.1 hm.2.1 hd hv.1 (by rw [← hv.2]; exact q.1) rfl (fun ls' hl' => kk ls' (hv.st1 hl'))) (hK _ _ _ q.2)
  · exact e_pure (fun hm hv kk => lv_astoreN hm.1 hm.2.1 hd hv.1 (by rw [← hv.2]; exact q.1) rfl (fun ls' hl' => kk ls' (hv.st1 hl'))) (hK _ _ _ q.2)
  · exact q.elim
theorem e_w_astore_n {K : e_K} {i : Fin 4} (hd : decode (e_c k) pc = .ok (.astore_n i, 1)) (hK : ∀ lv st h, K lv st h → e_Wm g k Ψ (pc + 1) lv st h) (q : e_p1a st (fun x r => e_sto lv (i : Nat) x (fun lv => K lv r h))) : e_Wm g k Ψ pc lv st h := by
  unfold e_p1a at q; split at q
  · exact e_pure (fun hm hv kk => lv_astore_n hm.1 hm.2.1 hd rfl hv.1 (by rw [← hv.2]; exact q.1) rfl (fun ls' hl' => kk ls' (hv.st1 hl'))) (hK _ _ _ q.2)
  · exact e_pure (fun hm hv kk => lv_astore_nN hm.1 hm.2.1 hd rfl hv.1 (by rw [← hv.2]; exact q.1) rfl (fun ls' hl' => kk ls' (hv.st1 hl'))) (hK _ _ _ q.2)
  · exact q.elim
theorem e_w_iinc {K : e_K} {i : Nat} {z : Int} (hd : decode (e_c k) pc = .ok (.iinc i z, 3)) (hK : ∀ lv st h, K lv st h → e_Wm g k Ψ (pc + 3) lv st h) (q : e_ldi lv i (fun x => e_sto lv i (.int (x + Int32.ofInt z)) (fun lv => K lv st h))) : e_Wm g k Ψ pc lv st h := by
  unfold e_ldi at q; split at q
  · rename_i x hx
    obtain ⟨j, hj⟩ := List.getElem?_of_mem (e_as_mem.mpr hx)
    exact e_pure (fun hm hv kk => lv_iinc hm.1 hm.2.1 hd hv.1 hj rfl (by rw [← hv.2]; exact q.1) rfl (fun ls' hl' => kk ls' (hv.st1 hl'))) (hK _ _ _ q.2)
  · exact q.elim
theorem e_w_iadd {K : e_K} (hd : decode (e_c k) pc = .ok (.iadd, 1)) (hK : ∀ lv st h, K lv st h → e_Wm g k Ψ (pc + 1) lv st h) (q : e_p1i st (fun y r => e_p1i r (fun x r => K lv (.int (x + y) :: r) h))) : e_Wm g k Ψ pc lv st h := by
  unfold e_p1i at q; split at q
  · split at q
    · exact e_pure (fun hm hv kk => lv_iadd hm.1 hm.2.1 hd (kk _ hv)) (hK _ _ _ q)
    · exact q.elim
  · exact q.elim
theorem e_w_isub {K : e_K} (hd : decode (e_c k) pc = .ok (.isub, 1)) (hK : ∀ lv st h, K lv st h → e_Wm g k Ψ (pc + 1) lv st h) (q : e_p1i st (fun y r => e_p1i r (fun x r => K lv (.int (x - y) :: r) h))) : e_Wm g k Ψ pc lv st h := by
  unfold e_p1i at q; split at q
  · split at q
    · exact e_pure (fun hm hv kk => lv_isub hm.1 hm.2.1 hd (kk _ hv)) (hK _ _ _ q)
    · exact q.elim
  · exact q.elim
theorem e_w_imul {K : e_K} (hd : decode (e_c k) pc = .ok (.imul, 1)) (hK : ∀ lv st h, K lv st h → e_Wm g k Ψ (pc + 1) lv st h) (q : e_p1i st (fun y r => e_p1i r (fun x r => K lv (.int (x * y) :: r) h))) : e_Wm g k Ψ pc lv st h := by
  unfold e_p1i at q; split at q
  · split at q
    · exact e_pure (fun hm hv kk => lv_imul hm.1 hm.2.1 hd (kk _ hv)) (hK _ _ _ q)
    · exact q.elim
  · exact q.elim
theorem e_w_iand {K : e_K} (hd : decode (e_c k) pc = .ok (.iand, 1)) (hK : ∀ lv st h, K lv st h → e_Wm g k Ψ (pc + 1) lv st h) (q : e_p1i st (fun y r => e_p1i r (fun x r => K lv (.int (x &&& y) :: r) h))) : e_Wm g k Ψ pc lv st h := by
  unfold e_p1i at q; split at q
  · split at q
    · exact e_pure (fun hm hv kk => lv_iand hm.1 hm.2.1 hd (kk _ hv)) (hK _ _ _ q)
    · exact q.elim
  · exact q.elim
theorem e_w_ior {K : e_K} (hd : decode (e_c k) pc = .ok (.ior, 1)) (hK : ∀ lv st h, K lv st h → e_Wm g k Ψ (pc + 1) lv st h) (q : e_p1i st (fun y r => e_p1i r (fun x r => K lv (.int (x ||| y) :: r) h))) : e_Wm g k Ψ pc lv st h := by
  unfold e_p1i at q; split at q
  · split at q
    · exact e_pure (fun hm hv kk => lv_ior hm.1 hm.2.1 hd (kk _ hv)) (hK _ _ _ q)
    · exact q.elim
  · exact q.elim
theorem e_w_ixor {K : e_K} (hd : decode (e_c k) pc = .ok (.ixor, 1)) (hK : ∀ lv st h, K lv st h → e_Wm g k Ψ (pc + 1) lv st h) (q : e_p1i st (fun y r => e_p1i r (fun x r => K lv (.int (x ^^^ y) :: r) h))) : e_Wm g k Ψ pc lv st h := by
  unfold e_p1i at q; split at q
  · split at q
    · exact e_pure (fun hm hv kk => lv_ixor hm.1 hm.2.1 hd (kk _ hv)) (hK _ _ _ q)
    · exact q.elim
  · exact q.elim
theorem e_w_ishl {K : e_K} (hd : decode (e_c k) pc = .ok (.ishl, 1)) (hK : ∀ lv st h, K lv st h → e_Wm g k Ψ (pc + 1) lv st h) (q : e_p1i st (fun y r => e_p1i r (fun x r => K lv (.int (x <<< (y &&& 31)) :: r) h))) : e_Wm g k Ψ pc lv st h := by
  unfold e_p1i at q; split at q
  · split at q
    · exact e_pure (fun hm hv kk => lv_ishl hm.1 hm.2.1 hd (kk _ hv)) (hK _ _ _ q)
    · exact q.elim
  · exact q.elim
theorem e_w_ishr {K : e_K} (hd : decode (e_c k) pc = .ok (.ishr, 1)) (hK : ∀ lv st h, K lv st h → e_Wm g k Ψ (pc + 1) lv st h) (q : e_p1i st (fun y r => e_p1i r (fun x r => K lv (.int (x >>> (y &&& 31)) :: r) h))) : e_Wm g k Ψ pc lv st h := by
  unfold e_p1i at q; split at q
  · split at q
    · exact e_pure (fun hm hv kk => lv_ishr hm.1 hm.2.1 hd (kk _ hv)) (hK _ _ _ q)
    · exact q.elim
  · exact q.elim
theorem e_w_iushr {K : e_K} (hd : decode (e_c k) pc = .ok (.iushr, 1)) (hK : ∀ lv st h, K lv st h → e_Wm g k Ψ (pc + 1) lv st h) (q : e_p1i st (fun y r => e_p1i r (fun x r => K lv (.int (x.toUInt32 >>> (y.toUInt32 &&& Int32.toUInt32 31)).toInt32 :: r) h))) : e_Wm g k Ψ pc lv st h := by
  unfold e_p1i at q; split at q
  · split at q
    · exact e_pure (fun hm hv kk => lv_iushr hm.1 hm.2.1 hd rfl (kk _ hv)) (hK _ _ _ q)
    · exact q.elim
  · exact q.elim
theorem e_w_idiv {K : e_K} (hd : decode (e_c k) pc = .ok (.idiv, 1)) (hK : ∀ lv st h, K lv st h → e_Wm g k Ψ (pc + 1) lv st h) (q : e_p1i st (fun y r => e_p1i r (fun x r => ¬ y = 0 ∧ K lv (.int (x / y) :: r) h))) : e_Wm g k Ψ pc lv st h := by
  unfold e_p1i at q; split at q
  · split at q
    · exact e_pure (fun hm hv kk => lv_idiv hm.1 hm.2.1 hd q.1 (kk _ hv)) (hK _ _ _ q.2)
    · exact q.elim
  · exact q.elim
theorem e_w_irem {K : e_K} (hd : decode (e_c k) pc = .ok (.irem, 1)) (hK : ∀ lv st h, K lv st h → e_Wm g k Ψ (pc + 1) lv st h) (q : e_p1i st (fun y r => e_p1i r (fun x r => ¬ y = 0 ∧ K lv (.int (x - x / y * y) :: r) h))) : e_Wm g k Ψ pc lv st h := by
  unfold e_p1i at q; split at q
  · split at q
    · exact e_pure (fun hm hv kk => lv_irem hm.1 hm.2.1 hd q.1 (kk _ hv)) (hK _ _ _ q.2)
    · exact q.elim
  · exact q.elim
theorem e_w_ladd {K : e_K} (hd : decode (e_c k) pc = .ok (.ladd, 1)) (hK : ∀ lv st h, K lv st h → e_Wm g k Ψ (pc + 1) lv st h) (q : e_p1l st (fun y r => e_p1l r (fun x r => K lv (.long (x + y) :: r) h))) : e_Wm g k Ψ pc lv st h := by
  unfold e_p1l at q; split at q
  · split at q
    · exact e_pure (fun hm hv kk => lv_ladd hm.1 hm.2.1 hd (kk _ hv)) (hK _ _ _ q)
    · exact q.elim
  · exact q.elim
theorem e_w_land {K : e_K} (hd : decode (e_c k) pc = .ok (.land, 1)) (hK : ∀ lv st h, K lv st h → e_Wm g k Ψ (pc + 1) lv st h) (q : e_p1l st (fun y r => e_p1l r (fun x r => K lv (.long (x &&& y) :: r) h))) : e_Wm g k Ψ pc lv st h := by
  unfold e_p1l at q; split at q
  · split at q
    · exact e_pure (fun hm hv kk => lv_land hm.1 hm.2.1 hd (kk _ hv)) (hK _ _ _ q)
    · exact q.elim
  · exact q.elim
theorem e_w_lor {K : e_K} (hd : decode (e_c k) pc = .ok (.lor, 1)) (hK : ∀ lv st h, K lv st h → e_Wm g k Ψ (pc + 1) lv st h) (q : e_p1l st (fun y r => e_p1l r (fun x r => K lv (.long (x ||| y) :: r) h))) : e_Wm g k Ψ pc lv st h := by
  unfold e_p1l at q; split at q
  · split at q
    · exact e_pure (fun hm hv kk => lv_lor hm.1 hm.2.1 hd (kk _ hv)) (hK _ _ _ q)
    · exact q.elim
  · exact q.elim
theorem e_w_lcmp {K : e_K} (hd : decode (e_c k) pc = .ok (.lcmp, 1)) (hK : ∀ lv st h, K lv st h → e_Wm g k Ψ (pc + 1) lv st h) (q : e_p1l st (fun y r => e_p1l r (fun x r => K lv (.int (lg_cmp x y) :: r) h))) : e_Wm g k Ψ pc lv st h := by
  unfold e_p1l at q; split at q
  · split at q
    · exact e_pure (fun hm hv kk => W.lcmp hm.1 hm.2.1 hd (kk _ hv)) (hK _ _ _ q)
    · exact q.elim
  · exact q.elim
theorem e_w_ineg {K : e_K} (hd : decode (e_c k) pc = .ok (.ineg, 1)) (hK : ∀ lv st h, K lv st h → e_Wm g k Ψ (pc + 1) lv st h) (q : e_p1i st (fun x r => K lv (.int (-x) :: r) h)) : e_Wm g k Ψ pc lv st h := by
  unfold e_p1i at q; split at q
  · exact e_pure (fun hm hv kk => lv_ineg hm.1 hm.2.1 hd (kk _ hv)) (hK _ _ _ q)
  · exact q.elim
theorem e_w_lneg {K : e_K} (hd : decode (e_c k) pc = .ok (.lneg, 1)) (hK : ∀ lv st h, K lv st h → e_Wm g k Ψ (pc + 1) lv st h) (q : e_p1l st (fun x r => K lv (.long (-x) :: r) h)) : e_Wm g k Ψ pc lv st h := by
  unfold e_p1l at q; split at q
  · exact e_pure (fun hm hv kk => lv_lneg hm.1 hm.2.1 hd (kk _ hv)) (hK _ _ _ q)
  · exact q.elim
theorem e_w_i2l {K : e_K} (hd : decode (e_c k) pc = .ok (.i2l, 1)) (hK : ∀ lv st h, K lv st h → e_Wm g k Ψ (pc + 1) lv st h) (q : e_p1i st (fun x r => K lv (.long x.toInt64 :: r) h)) : e_Wm g k Ψ pc lv st h := by
  unfold e_p1i at q; split at q
  · exact e_pure (fun hm hv kk => lv_i2l hm.1 hm.2.1 hd rfl (kk _ hv)) (hK _ _ _ q)
  · exact q.elim
theorem e_w_l2i {K : e_K} (hd : decode (e_c k) pc = .ok (.l2i, 1)) (hK : ∀ lv st h, K lv st h → e_Wm g k Ψ (pc + 1) lv st h) (q : e_p1l st (fun x r => K lv (.int x.toInt32 :: r) h)) : e_Wm g k Ψ pc lv st h := by
  unfold e_p1l at q; split at q
  · exact e_pure (fun hm hv kk => lv_l2i hm.1 hm.2.1 hd rfl (kk _ hv)) (hK _ _ _ q)
  · exact q.elim
theorem e_w_lshl {K : e_K} (hd : decode (e_c k) pc = .ok (.lshl, 1)) (hK : ∀ lv st h, K lv st h → e_Wm g k Ψ (pc + 1) lv st h) (q : e_p1i st (fun y r => e_p1l r (fun x r => K lv (.long (x <<< (y.toInt64 &&& 63)) :: r) h))) : e_Wm g k Ψ pc lv st h := by
  unfold e_p1i at q; split at q
  · unfold e_p1l at q; split at q
    · exact e_pure (fun hm hv kk => lv_lshl hm.1 hm.2.1 hd rfl (kk _ hv)) (hK _ _ _ q)
    · exact q.elim
  · exact q.elim
theorem e_w_lshr {K : e_K} (hd : decode (e_c k) pc = .ok (.lshr, 1)) (hK : ∀ lv st h, K lv st h → e_Wm g k Ψ (pc + 1) lv st h) (q : e_p1i st (fun y r => e_p1l r (fun x r => K lv (.long (x >>> (y.toInt64 &&& 63)) :: r) h))) : e_Wm g k Ψ pc lv st h := by
  unfold e_p1i at q; split at q
  · unfold e_p1l at q; split at q
    · exact e_pure (fun hm hv kk => lv_lshr hm.1 hm.2.1 hd rfl (kk _ hv)) (hK _ _ _ q)
    · exact q.elim
  · exact q.elim
theorem e_w_dup {K : e_K} (hd : decode (e_c k) pc = .ok (.dup, 1)) (hK : ∀ lv st h, K lv st h → e_Wm g k Ψ (pc + 1) lv st h) (q : e_p1 st (fun v r => K lv (v :: v :: r) h)) : e_Wm g k Ψ pc lv st h := by
  unfold e_p1 at q; split at q
  · exact e_pure (fun hm hv kk => lv_dup hm.1 hm.2.1 hd q.1 (kk _ hv)) (hK _ _ _ q.2)
  · exact q.elim
theorem e_w_pop {K : e_K} (hd : decode (e_c k) pc = .ok (.pop, 1)) (hK : ∀ lv st h, K lv st h → e_Wm g k Ψ (pc + 1) lv st h) (q : e_p1 st (fun _ r => K lv r h)) : e_Wm g k Ψ pc lv st h := by
  unfold e_p1 at q; split at q
  · exact e_pure (fun hm hv kk => lv_pop hm.1 hm.2.1 hd q.1 (kk _ hv)) (hK _ _ _ q.2)
  · exact q.elim
theorem e_w_dup2 {K : e_K} (hd : decode (e_c k) pc = .ok (.dup2, 1)) (hK : ∀ lv st h, K lv st h → e_Wm g k Ψ (pc + 1) lv st h) (q : e_p1 st (fun v r => e_p1 r (fun w r => K lv (v :: w :: v :: w :: r) h))) : e_Wm g k Ψ pc lv st h := by
  unfold e_p1 at q; split at q
  · obtain ⟨q1, q⟩ := q
    split at q
    · exact e_pure (fun hm hv kk => lv_dup2_11 hm.1 hm.2.1 hd q1 q.1 (kk _ hv)) (hK _ _ _ q.2)
    · exact q.elim
  · exact q.elim
theorem e_w_goto {off : Int} {tg : List Nat} (hd : decode (e_c k) pc = .ok (.goto off, 3)) (ht : (pc : Int) + off = ((tg.getD 0 0 : Nat) : Int)) (q : e_tg tg 0 (fun t => e_Wm g k Ψ t lv st h)) : e_Wm g k Ψ pc lv st h := by
  unfold e_tg at q; split at q
  · rename_i t hx
    rw [List.getD_eq_getElem?_getD, hx] at ht
    exact e_pure (fun hm hv kk => lv_goto hm.1 hm.2.1 hd ht (kk _ hv)) q
  · exact q.elim
theorem e_w_if_eq {K : e_K} {off : Int} {tg : List Nat} (hd : decode (e_c k) pc = .ok (.ifCond .eq off, 3)) (ht : (pc : Int) + off = ((tg.getD 0 0 : Nat) : Int)) (hK : ∀ lv st h, K lv st h → e_Wm g k Ψ (pc + 3) lv st h) (q : e_p1i st (fun x r => (e_cnd .eq x 0 → e_tg tg 0 (fun t => e_Wm g k Ψ t lv r h)) ∧ (¬ e_cnd .eq x 0 → K lv r h))) : e_Wm g k Ψ pc lv st h := by
  unfold e_p1i at q; split at q
  · rename_i x r
    by_cases hc : e_cnd .eq x 0
    · have q := q.1 hc
      unfold e_tg at q; split at q
      · rename_i t hx
        rw [List.getD_eq_getElem?_getD, hx] at ht
        exact e_pure (fun hm hv kk => lv_if_eq hm.1 hm.2.1 hd ht (fun _ => kk _ hv) (fun z => absurd hc z)) q
      · exact q.elim
    · exact e_pure (fun hm hv kk => lv_if_eq hm.1 hm.2.1 hd ht (fun z => absurd z hc) (fun _ => kk _ hv)) (hK _ _ _ (q.2 hc))
  · exact q.elim
theorem e_w_icmp_eq {K : e_K} {off : Int} {tg : List Nat} (hd : decode (e_c k) pc = .ok (.if_icmp .eq off, 3)) (ht : (pc : Int) + off = ((tg.getD 0 0 : Nat) : Int)) (hK : ∀ lv st h, K lv st h → e_Wm g k Ψ (pc + 3) lv st h) (q : e_p1i st (fun y r => e_p1i r (fun x r => (e_cnd .eq x y → e_tg tg 0 (fun t => e_Wm g k Ψ t lv r h)) ∧ (¬ e_cnd .eq x y → K lv r h)))) : e_Wm g k Ψ pc lv st h := by
  unfold e_p1i at q; split at q
  · rename_i y r0
    split at q
    · rename_i x r
      by_cases hc : e_cnd .eq x y
      · have q := q.1 hc
        unfold e_tg at q; split at q
        · rename_i t hx
          rw [List.getD_eq_getElem?_getD, hx] at ht
          exact e_pure (fun hm hv kk => lv_icmp_eq hm.1 hm.2.1 hd ht (fun _ => kk _ hv) (fun z => absurd hc z)) q
        · exact q.elim
      · exact e_pure (fun hm hv kk => lv_icmp_eq hm.1 hm.2.1 hd ht (fun z => absurd z hc) (fun _ => kk _ hv)) (hK _ _ _ (q.2 hc))
    · exact q.elim
  · exact q.elim
theorem e_w_if_ne {K : e_K} {off : Int} {tg : List Nat} (hd : decode (e_c k) pc = .ok (.ifCond .ne off, 3)) (ht : (pc : Int) + off = ((tg.getD 0 0 : Nat) : Int)) (hK : ∀ lv st h, K lv st h → e_Wm g k Ψ (pc + 3) lv st h) (q : e_p1i st (fun x r => (e_cnd .ne x 0 → e_tg tg 0 (fun t => e_Wm g k Ψ t lv r h)) ∧ (¬ e_cnd .ne x 0 → K lv r h))) : e_Wm g k Ψ pc lv st h := by
  unfold e_p1i at q; split at q
  · rename_i x r
    by_cases hc : x = 0
    · exact e_pure (fun hm hv kk => lv_if_ne hm.1 hm.2.1 hd ht (fun z => absurd hc z) (fun _ => kk _ hv)) (hK _ _ _ (q.2 (fun z => z hc)))
    · have q := q.1 hc
      unfold e_tg at q; split at q
      · rename_i t hx
        rw [List.getD_eq_getElem?_getD, hx] at ht
        exact e_pure (fun hm hv kk => lv_if_ne hm.1 hm.2.1 hd ht (fun _ => kk _ hv) (fun z => absurd z hc)) q
      · exact q.elim
  · exact q.elim
theorem e_w_icmp_ne {K : e_K} {off : Int} {tg : List Nat} (hd : decode (e_c k) pc = .ok (.if_icmp .ne off, 3)) (ht : (pc : Int) + off = ((tg.getD 0 0 : Nat) : Int)) (hK : ∀ lv st h, K lv st h → e_Wm g k Ψ (pc + 3) lv st h) (q : e_p1i st (fun y r => e_p1i r (fun x r => (e_cnd .ne x y → e_tg tg 0 (fun t => e_Wm g k Ψ t lv r h)) ∧ (¬ e_cnd .ne x y → K lv r h)))) : e_Wm g k Ψ pc lv st h := by
  unfold e_p1i at q; split at q
  · rename_i y r0
    split at q
    · rename_i x r
      by_cases hc : x = y
      · exact e_pure (fun hm hv kk => lv_icmp_ne hm.1 hm.2.1 hd ht (fun z => absurd hc z) (fun _ => kk _ hv)) (hK _ _ _ (q.2 (fun z => z hc)))
      · have q := q.1 hc
        unfold e_tg at q; split at q
        · rename_i t hx
          rw [List.getD_eq_getElem?_getD, hx] at ht
          exact e_pure (fun hm hv kk => lv_icmp_ne hm.1 hm.2.1 hd ht (fun _ => kk _ hv) (fun z => absurd z hc)) q
        · exact q.elim
    · exact q.elim
  · exact q.elim
theorem e_w_if_lt {K : e_K} {off : Int} {tg : List Nat} (hd : decode (e_c k) pc = .ok (.ifCond .lt off, 3)) (ht : (pc : Int) + off = ((tg.getD 0 0 : Nat) : Int)) (hK : ∀ lv st h, K lv st h → e_Wm g k Ψ (pc + 3) lv st h) (q : e_p1i st (fun x r => (e_cnd .lt x 0 → e_tg tg 0 (fun t => e_Wm g k Ψ t lv r h)) ∧ (¬ e_cnd .lt x 0 → K lv r h))) : e_Wm g k Ψ pc lv st h := by
  unfold e_p1i at q; split at q
  · rename_i x r
    by_cases hc : e_cnd .lt x 0
    · have q := q.1 hc
      unfold e_tg at q; split at q
      · rename_i t hx
        rw [List.getD_eq_getElem?_getD, hx] at ht
        exact e_pure (fun hm hv kk => lv_if_lt hm.1 hm.2.1 hd ht (fun _ => kk _ hv) (fun z => absurd hc z)) q
      · exact q.elim
    · exact e_pure (fun hm hv kk => lv_if_lt hm.1 hm.2.1 hd ht (fun z => absurd z hc) (fun _ => kk _ hv)) (hK _ _ _ (q.2 hc))
  · exact q.elim
theorem e_w_icmp_lt {K : e_K} {off : Int} {tg : List Nat} (hd : decode (e_c k) pc = .ok (.if_icmp .lt off, 3)) (ht : (pc : Int) + off = ((tg.getD 0 0 : Nat) : Int)) (hK : ∀ lv st h, K lv st h → e_Wm g k Ψ (pc + 3) lv st h) (q : e_p1i st (fun y r => e_p1i r (fun x r => (e_cnd .lt x y → e_tg tg 0 (fun t => e_Wm g k Ψ t lv r h)) ∧ (¬ e_cnd .lt x y → K lv r h)))) : e_Wm g k Ψ pc lv st h := by
  unfold e_p1i at q; split at q
  · rename_i y r0
    split at q
    · rename_i x r
      by_cases hc : e_cnd .lt x y
      · have q := q.1 hc
        unfold e_tg at q; split at q
        · rename_i t hx
          rw [List.getD_eq_getElem?_getD, hx] at ht
          exact e_pure (fun hm hv kk => lv_icmp_lt hm.1 hm.2.1 hd ht (fun _ => kk _ hv) (fun z => absurd hc z)) q
        · exact q.elim
      · exact e_pure (fun hm hv kk => lv_icmp_lt hm.1 hm.2.1 hd ht (fun z => absurd z hc) (fun _ => kk _ hv)) (hK _ _ _ (q.2 hc))
    · exact q.elim
  · exact q.elim
theorem e_w_if_ge {K : e_K} {off : Int} {tg : List Nat} (hd : decode (e_c k) pc = .ok (.ifCond .ge off, 3)) (ht : (pc : Int) + off = ((tg.getD 0 0 : Nat) : Int)) (hK : ∀ lv st h, K lv st h → e_Wm g k Ψ (pc + 3) lv st h) (q : e_p1i st (fun x r => (e_cnd .ge x 0 → e_tg tg 0 (fun t => e_Wm g k Ψ t lv r h)) ∧ (¬ e_cnd .ge x 0 → K lv r h))) : e_Wm g k Ψ pc lv st h := by
  unfold e_p1i at q; split at q
  · rename_i x r
    by_cases hc : e_cnd .ge x 0
    · have q := q.1 hc
      unfold e_tg at q; split at q
      · rename_i t hx
        rw [List.getD_eq_getElem?_getD, hx] at ht
        exact e_pure (fun hm hv kk => lv_if_ge hm.1 hm.2.1 hd ht (fun _ => kk _ hv) (fun z => absurd hc z)) q
      · exact q.elim
    · exact e_pure (fun hm hv kk => lv_if_ge hm.1 hm.2.1 hd ht (fun z => absurd z hc) (fun _ => kk _ hv)) (hK _ _ _ (q.2 hc))
  · exact q.elim
theorem e_w_icmp_ge {K : e_K} {off : Int} {tg : List Nat} (hd : decode (e_c k) pc = .ok (.if_icmp .ge off, 3)) (ht : (pc : Int) + off = ((tg.getD 0 0 : Nat) : Int)) (hK : ∀ lv st h, K lv st h → e_Wm g k Ψ (pc + 3) lv st h) (q : e_p1i st (fun y r => e_p1i r (fun x r => (e_cnd .ge x y → e_tg tg 0 (fun t => e_Wm g k Ψ t lv r h)) ∧ (¬ e_cnd .ge x y → K lv r h)))) : e_Wm g k Ψ pc lv st h := by
  unfold e_p1i at q; split at q
  · rename_i y r0
    split at q
    · rename_i x r
      by_cases hc : e_cnd .ge x y
      · have q := q.1 hc
        unfold e_tg at q; split at q
        · rename_i t hx
          rw [List.getD_eq_getElem?_getD, hx] at ht
          exact e_pure (fun hm hv kk => lv_icmp_ge hm.1 hm.2.1 hd ht (fun _ => kk _ hv) (fun z => absurd hc z)) q
        · exact q.elim
      · exact e_pure (fun hm hv kk => lv_icmp_ge hm.1 hm.2.1 hd ht (fun z => absurd z hc) (fun _ => kk _ hv)) (hK _ _ _ (q.2 hc))
    · exact q.elim
  · exact q.elim
theorem e_w_if_gt {K : e_K} {off : Int} {tg : List Nat} (hd : decode (e_c k) pc = .ok (.ifCond .gt off, 3)) (ht : (pc : Int) + off = ((tg.getD 0 0 : Nat) : Int)) (hK : ∀ lv st h, K lv st h → e_Wm g k Ψ (pc + 3) lv st h) (q : e_p1i st (fun x r => (e_cnd .gt x 0 → e_tg tg 0 (fun t => e_Wm g k Ψ t lv r h)) ∧ (¬ e_cnd .gt x 0 → K lv r h))) : e_Wm g k Ψ pc lv st h := by
  unfold e_p1i at q; split at q
  · rename_i x r
    by_cases hc : e_cnd .gt x 0
    · have q := q.1 hc
      unfold e_tg at q; split at q
      · rename_i t hx
        rw [List.getD_eq_getElem?_getD, hx] at ht
        exact e_pure (fun hm hv kk => lv_if_gt hm.1 hm.2.1 hd ht (fun _ => kk _ hv) (fun z => absurd hc z)) q
      · exact q.elim
    · exact e_pure (fun hm hv kk => lv_if_gt hm.1 hm.2.1 hd ht (fun z => absurd z hc) (fun _ => kk _ hv)) (hK _ _ _ (q.2 hc))
  · exact q.elim
theorem e_w_icmp_gt {K : e_K} {off : Int} {tg : List Nat} (hd : decode (e_c k) pc = .ok (.if_icmp .gt off, 3)) (ht : (pc : Int) + off = ((tg.getD 0 0 : Nat) : Int)) (hK : ∀ lv st h, K lv st h → e_Wm g k Ψ (pc + 3) lv st h) (q : e_p1i st (fun y r => e_p1i r (fun x r => (e_cnd .gt x y → e_tg tg 0 (fun t => e_Wm g k Ψ t lv r h)) ∧ (¬ e_cnd .gt x y → K lv r h)))) : e_Wm g k Ψ pc lv st h := by
  unfold e_p1i at q; split at q
  · rename_i y r0
    split at q
    · rename_i x r
      by_cases hc : e_cnd .gt x y
      · have q := q.1 hc
        unfold e_tg at q; split at q
        · rename_i t hx
          rw [List.getD_eq_getElem?_getD, hx] at ht
          exact e_pure (fun hm hv kk => lv_icmp_gt hm.1 hm.2.1 hd ht (fun _ => kk _ hv) (fun z => absurd hc z)) q
        · exact q.elim
      · exact e_pure (fun hm hv kk => lv_icmp_gt hm.1 hm.2.1 hd ht (fun z => absurd z hc) (fun _ => kk _ hv)) (hK _ _ _ (q.2 hc))
    · exact q.elim
  · exact q.elim
theorem e_w_if_le {K : e_K} {off : Int} {tg : List Nat} (hd : decode (e_c k) pc = .ok (.ifCond .le off, 3)) (ht : (pc : Int) + off = ((tg.getD 0 0 : Nat) : Int)) (hK : ∀ lv st h, K lv st h → e_Wm g k Ψ (pc + 3) lv st h) (q : e_p1i st (fun x r => (e_cnd .le x 0 → e_tg tg 0 (fun t => e_Wm g k Ψ t lv r h)) ∧ (¬ e_cnd .le x 0 → K lv r h))) : e_Wm g k Ψ pc lv st h := by
  unfold e_p1i at q; split at q
  · rename_i x r
    by_cases hc : e_cnd .le x 0
    · have q := q.1 hc
      unfold e_tg at q; split at q
      · rename_i t hx
        rw [List.getD_eq_getElem?_getD, hx] at ht
        exact e_pure (fun hm hv kk => lv_if_le hm.1 hm.2.1 hd ht (fun _ => kk _ hv) (fun z => absurd hc z)) q
      · exact q.elim
    · exact e_pure (fun hm hv kk => lv_if_le hm.1 hm.2.1 hd ht (fun z => absurd z hc) (fun _ => kk _ hv)) (hK _ _ _ (q.2 hc))
  · exact q.elim
theorem e_w_icmp_le {K : e_K} {off : Int} {tg : List Nat} (hd : decode (e_c k) pc = .ok (.if_icmp .le off, 3)) (ht : (pc : Int) + off = ((tg.getD 0 0 : Nat) : Int)) (hK : ∀ lv st h, K lv st h → e_Wm g k Ψ (pc + 3) lv st h) (q : e_p1i st (fun y r => e_p1i r (fun x r => (e_cnd .le x y → e_tg tg 0 (fun t => e_Wm g k Ψ t lv r h)) ∧ (¬ e_cnd .le x y → K lv r h)))) : e_Wm g k Ψ pc lv st h := by
  unfold e_p1i at q; split at q
  · rename_i y r0
    split at q
    · rename_i x r
      by_cases hc : e_cnd .le x y
      · have q := q.1 hc
        unfold e_tg at q; split at q
        · rename_i t hx
          rw [List.getD_eq_getElem?_getD, hx] at ht
          exact e_pure (fun hm hv kk => lv_icmp_le hm.1 hm.2.1 hd ht (fun _ => kk _ hv) (fun z => absurd hc z)) q
        · exact q.elim
      · exact e_pure (fun hm hv kk => lv_icmp_le hm.1 hm.2.1 hd ht (fun z => absurd z hc) (fun _ => kk _ hv)) (hK _ _ _ (q.2 hc))
    · exact q.elim
  · exact q.elim
theorem e_w_ifnull {K : e_K} {off : Int} {tg : List Nat} (hd : decode (e_c k) pc = .ok (.ifnull off, 3)) (ht : (pc : Int) + off = ((tg.getD 0 0 : Nat) : Int)) (hK : ∀ lv st h, K lv st h → e_Wm g k Ψ (pc + 3) lv st h) (q : e_nul st (fun r => e_tg tg 0 (fun t => e_Wm g k Ψ t lv r h)) (fun r => K lv r h)) : e_Wm g k Ψ pc lv st h := by
  unfold e_nul at q; split at q
  · unfold e_tg at q; split at q
    · rename_i t hx
      rw [List.getD_eq_getElem?_getD, hx] at ht
      exact e_pure (fun hm hv kk => lv_ifnullN hm.1 hm.2.1 hd ht (kk _ hv)) q
    · exact q.elim
  · exact e_pure (fun hm hv kk => lv_ifnull hm.1 hm.2.1 hd (kk _ hv)) (hK _ _ _ q)
  · exact q.elim
theorem e_w_ifnonnull {K : e_K} {off : Int} {tg : List Nat} (hd : decode (e_c k) pc = .ok (.ifnonnull off, 3)) (ht : (pc : Int) + off = ((tg.getD 0 0 : Nat) : Int)) (hK : ∀ lv st h, K lv st h → e_Wm g k Ψ (pc + 3) lv st h) (q : e_nul st (fun r => K lv r h) (fun r => e_tg tg 0 (fun t => e_Wm g k Ψ t lv r h))) : e_Wm g k Ψ pc lv st h := by
  unfold e_nul at q; split at q
  · exact e_pure (fun hm hv kk => lv_ifnonnullN hm.1 hm.2.1 hd (kk _ hv)) (hK _ _ _ q)
  · unfold e_tg at q; split at q
    · rename_i t hx
      rw [List.getD_eq_getElem?_getD, hx] at ht
      exact e_pure (fun hm hv kk => lv_ifnonnull hm.1 hm.2.1 hd ht (kk _ hv)) q
    · exact q.elim
  · exact q.elim
theorem e_p1a_rf {st : List Value} {kk : Value → List Value → Prop} (q : e_p1a st kk) : ∃ (o : Option Nat) (r : List Value), st = va_rf o :: r ∧ kk (va_rf o) r := by
  unfold e_p1a at q; split at q
  · exact ⟨some _, _, rfl, q⟩
  · exact ⟨none, _, rfl, q⟩
  · exact q.elim
theorem e_rf_inj {x y : Option Nat} : va_rf x = va_rf y ↔ x = y := by
  cases x <;> cases y <;> simp [va_rf]
theorem e_w_acmp_ne {K : e_K} {off : Int} {tg : List Nat} (hd : decode (e_c k) pc = .ok (.if_acmp .ne off, 3)) (ht : (pc : Int) + off = ((tg.getD 0 0 : Nat) : Int)) (hK : ∀ lv st h, K lv st h → e_Wm g k Ψ (pc + 3) lv st h) (q : e_p1a st (fun y r => e_p1a r (fun x r => (¬ x = y → e_tg tg 0 (fun t => e_Wm g k Ψ t lv r h)) ∧ (x = y → K lv r h)))) : e_Wm g k Ψ pc lv st h := by
  obtain ⟨y, r0, e1, q1⟩ := e_p1a_rf q
  subst e1
  obtain ⟨x, r, e2, q2⟩ := e_p1a_rf q1
  subst e2
  by_cases hc : x = y
  · exact e_pure (fun hm hv kk => lv_acmp_ne hm.1 hm.2.1 hd ht (fun z => absurd hc z) (fun _ => kk _ hv)) (hK _ _ _ (q2.2 (e_rf_inj.mpr hc)))
  · have q := q2.1 (fun z => hc (e_rf_inj.mp z))
    unfold e_tg at q; split at q
    · rename_i t hx
      rw [List.getD_eq_getElem?_getD, hx] at ht
      exact e_pure (fun hm hv kk => lv_acmp_ne hm.1 hm.2.1 hd ht (fun _ => kk _ hv) (fun z => absurd z hc)) q
    · exact q.elim
theorem e_sw_at {x : Int32} {J : Nat → Prop} : ∀ (ts : List Nat) (v : Int) (j : Nat) (t : Nat), e_sw x v ts J → ts[j]? = some t → x.toInt = v + j → J t
  | [], _, j, t, _, h, _ => by simp at h
  | t0 :: ts, v, 0, t, q, h, e => by
    simp at h; subst h
    exact q.1 (by rw [e]; simp)
  | t0 :: ts, v, j + 1, t, q, h, e => e_sw_at ts (v + 1) j t q.2 (by simpa using h) (by rw [e]; omega)
theorem e_w_tsw {d lo hi : Int} {offs : Array Int} {len : Nat} {tg : List Nat} (hd : decode (e_c k) pc = .ok (.tableswitch d lo hi offs, len)) (h0 : (pc : Int) + d = ((tg.getD 0 0 : Nat) : Int)) (h1 : hi - lo + 1 = (offs.size : Int)) (h2 : tg.drop 1 = offs.toList.map (fun o => ((pc : Int) + o).toNat)) (h3 : ∀ o ∈ offs.toList, 0 ≤ (pc : Int) + o)
    (q : e_p1i st (fun x r => (x.toInt < lo ∨ hi < x.toInt → e_tg tg 0 (fun t => e_Wm g k Ψ t lv r h)) ∧ e_sw x lo (tg.drop 1) (fun t => e_Wm g k Ψ t lv r h))) : e_Wm g k Ψ pc lv st h := by
  unfold e_p1i at q; split at q
  · rename_i x r
    by_cases hc : x.toInt < lo ∨ hi < x.toInt
    · have q := q.1 hc
      unfold e_tg at q; split at q
      · rename_i t hx
        rw [List.getD_eq_getElem?_getD, hx] at h0
        exact e_pure (fun hm hv kk => lv_tableOut hm.1 hm.2.1 hd hc h0 (kk _ hv)) q
      · exact q.elim
    · have a1 : ¬ x.toInt < lo := fun z => hc (Or.inl z)
      have a2 : ¬ hi < x.toInt := fun z => hc (Or.inr z)
      have hl : (x.toInt - lo).toNat < offs.size := by omega
      have ho : offs[(x.toInt - lo).toNat]? = some offs[(x.toInt - lo).toNat] := Array.getElem?_eq_getElem hl
      have hmem : offs[(x.toInt - lo).toNat] ∈ offs.toList := Array.getElem_mem_toList hl
      have hz := h3 _ hmem
      have hj : (tg.drop 1)[(x.toInt - lo).toNat]? = some ((pc : Int) + offs[(x.toInt - lo).toNat]).toNat := by
        rw [h2, List.getElem?_map, Array.getElem?_toList, ho]
        rfl
      have q2 := e_sw_at _ _ _ _ q.2 hj (by omega)
      exact e_pure (fun hm hv kk => lv_tableIn hm.1 hm.2.1 hd a1 a2 ho (by omega) (kk _ hv)) q2
  · exact q.elim
end PU
