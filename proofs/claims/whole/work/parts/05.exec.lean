/-! the symbolic machine: one instruction (e_step), a row of them (e_exec), a method's code (e_Sm) -/
abbrev e_En : Type := Nat × Instr × Nat × List Nat
def e_ldi (lv : e_Lv) (i : Nat) (kk : Int32 → Prop) : Prop := match lv[i]? with
  | some (some (.int x)) => kk x
  | _ => False
def e_ldl (lv : e_Lv) (i : Nat) (kk : Int64 → Prop) : Prop := match lv[i]? with
  | some (some (.long x)) => kk x
  | _ => False
def e_lda (lv : e_Lv) (i : Nat) (kk : Value → Prop) : Prop := match lv[i]? with
  | some (some (.ref a)) => kk (.ref a)
  | some (some .null) => kk .null
  | _ => False
def e_sto (lv : e_Lv) (i : Nat) (v : Value) (kk : e_Lv → Prop) : Prop := i < lv.length ∧ kk (e_st1 lv i v)
def e_sto2 (lv : e_Lv) (i : Nat) (v : Value) (kk : e_Lv → Prop) : Prop := i + 1 < lv.length ∧ kk (e_st2 lv i v)
def e_p1i (st : List Value) (kk : Int32 → List Value → Prop) : Prop := match st with
  | .int x :: r => kk x r
  | _ => False
def e_p1l (st : List Value) (kk : Int64 → List Value → Prop) : Prop := match st with
  | .long x :: r => kk x r
  | _ => False
def e_p1a (st : List Value) (kk : Value → List Value → Prop) : Prop := match st with
  | .ref a :: r => kk (.ref a) r
  | .null :: r => kk .null r
  | _ => False
def e_p1r (st : List Value) (kk : Nat → List Value → Prop) : Prop := match st with
  | .ref a :: r => kk a r
  | _ => False
def e_p1 (st : List Value) (kk : Value → List Value → Prop) : Prop := match st with
  | v :: r => v.category = 1 ∧ kk v r
  | _ => False
def e_gO (h : e_Hp) (a ci : Nat) (kk : (Nat → Value) → Prop) : Prop := match h.1 a with
  | some (.inl o) => o.1 = ci ∧ kk o.2
  | _ => False
def e_gI (h : e_Hp) (a t : Nat) (kk : Nat → (Nat → Int32) → Prop) : Prop := match h.1 a with
  | some (.inr (.inl x)) => x.1 = t ∧ kk x.2.1 x.2.2
  | _ => False
def e_gR (h : e_Hp) (a : Nat) (kk : Nat → Nat → (Nat → Option Nat) → Prop) : Prop := match h.1 a with
  | some (.inr (.inr (.inl x))) => kk x.1 x.2.1 x.2.2
  | _ => False
def e_isC (h : e_Hp) (a ci : Nat) : Prop := match h.1 a with
  | some (.inl o) => o.1 = ci
  | some (.inr (.inr (.inr _))) => ci = 0
  | _ => False
def e_fit (tk : Nat) (v : Value) : Prop := match tk, v with
  | 0, .int _ => True
  | 1, .int x => x = 0 ∨ x = 1
  | 2, .ref _ => True
  | 2, .null => True
  | _, _ => False
def e_l4 (r : List Value) : Prop := (r.map fun v => v.category).sum ≤ 8
def e_ps (rv : Option Value) (r : List Value) : List Value := rv.toList ++ r
def e_cnd (c : ClassFile.Cond) (x y : Int32) : Prop := match c with
  | .eq => x = y
  | .ne => ¬ x = y
  | .lt => x < y
  | .ge => y ≤ x
  | .gt => y < x
  | .le => x ≤ y
def e_tg (tg : List Nat) (j : Nat) (J : Nat → Prop) : Prop := match tg[j]? with
  | some t => J t
  | none => False
def e_sw (x : Int32) (v : Int) : List Nat → (Nat → Prop) → Prop
  | [], _ => True
  | t :: ts, J => (x.toInt = v → J t) ∧ e_sw x (v + 1) ts J
def e_dv (ci f : Nat) : Value := match parseFieldDescriptor ((vwCl.getD ci (RX0, TX0, 0)).2.1 f).2.2.1 with
  | some ty => defaultValue ty
  | none => .null
def e_nf (ci : Nat) : Nat := (vwCl.getD ci (RX0, TX0, 0)).2.2
def e_cpy {α : Type} (f g : Nat → α) (sp dp n : Nat) : Nat → α := va_cpy f g sp dp n
def e_cal (g : e_G) (x : Option (Nat × Nat × Nat × Nat)) (lv : e_Lv) (st : List Value) (h : e_Hp) (K : e_K) : Prop := match x with
  | some (0, k, n, ci) => e_p1r (st.drop n) (fun a r => e_isC h a ci ∧ e_l4 r ∧ e_Sc g k (.ref a :: (st.take n).reverse) h (fun rv h' => K lv (e_ps rv r) h'))
  | some (1, k, n, _) => n ≤ st.length ∧ e_l4 (st.drop n) ∧ e_Sc g k (st.take n).reverse h (fun rv h' => K lv (e_ps rv (st.drop n)) h')
  | some (2, k, n, _) => e_p1r (st.drop n) (fun a r => e_l4 r ∧ e_Sc g k (.ref a :: (st.take n).reverse) h (fun rv h' => K lv (e_ps rv r) h'))
  | some (3, k, n, _) => n ≤ st.length ∧ e_l4 (st.drop n) ∧ e_Sc g k (st.take n).reverse h (fun rv h' => K lv (e_ps rv (st.drop n)) h')
  | some (4, k, n, _) => e_p1r (st.drop n) (fun a r => e_l4 r ∧ e_Sc g k (.ref a :: (st.take n).reverse) h (fun rv h' => K lv (e_ps rv r) h'))
  | some (5, _, _, _) => e_p1r st (fun _ r => e_l4 r ∧ K lv r h)
  | some (6, _, _, _) => e_p1i st (fun y r => e_p1i r (fun x r => e_l4 r ∧ K lv (.int (if x < y then y else x) :: r) h))
  | some (7, _, _, _) => e_p1i st (fun y r => e_p1i r (fun x r => e_l4 r ∧ K lv (.int (if y < x then y else x) :: r) h))
  | some (8, _, _, _) => e_p1i st (fun n r => e_p1i r (fun dp r => e_p1r r (fun d r => e_p1i r (fun sp r => e_p1r r (fun s r =>
      e_l4 r ∧ e_gI h s 0 (fun ns f => e_gI h d 0 (fun nd f2 => ¬ n < 0 ∧ ¬ sp < 0 ∧ ¬ dp < 0 ∧ sp.toNatClampNeg + n.toNatClampNeg ≤ ns ∧ dp.toNatClampNeg + n.toNatClampNeg ≤ nd ∧
        K lv r (e_wr h d (e_I 0 nd (e_cpy f f2 sp.toNatClampNeg dp.toNatClampNeg n.toNatClampNeg)))))))))) 
  | _ => False
def e_stI : Nat → Nat → Nat × (Nat → Int32)
  | 12, 350 => (22, fun j => [(198 : Int32), 66, 66, 4, 8, 8, 8, 56, 16, 16, 16, 16, 32, 32, 32, 64, 64, 128, 128, 64, 1, 255].getD j 0)
  | _, _ => (8, fun j => [(1 : Int32), 4, 4, 8, 3, 9, 4, 1].getD j 0)
def e_om {α : Type} (x : Option α) (kk : α → Prop) : Prop := match x with
  | some v => kk v
  | none => False
def e_nul (st : List Value) (kn kr : List Value → Prop) : Prop := match st with
  | .null :: r => kn r
  | .ref _ :: r => kr r
  | _ => False
def e_p2 (st : List Value) (kk : Value → Nat → List Value → Prop) : Prop := match st with
  | v :: .ref a :: r => kk v a r
  | _ => False
def e_gl (h : e_Hp) (a : Nat) (kk : Nat → Prop) : Prop := match h.1 a with
  | some (.inr (.inl x)) => x.1 < 2 ∧ kk x.2.1
  | some (.inr (.inr (.inl x))) => (x.1 = 2 ∨ x.1 = 3) ∧ kk x.2.1
  | _ => False
def e_ck (h : e_Hp) (ci : Nat) (st : List Value) (kk : Prop) : Prop := match st with
  | .ref a :: _ => e_gO h a ci (fun _ => kk)
  | .null :: _ => kk
  | _ => False
def e_an (ci : Nat) (kk : Nat → Prop) : Prop := match ci with
  | 11 => kk 2
  | 9 => kk 3
  | _ => False
def e_step (g : e_G) (k o : Nat) (i : Instr) (tg : List Nat) (lv : e_Lv) (st : List Value) (h : e_Hp) (J : e_J) (Ψ : e_Q) (K : e_K) : Prop :=
  match i with
  | .aconst_null => K lv (.null :: st) h
  | .iconst n => K lv (.int (Int32.ofInt n) :: st) h
  | .bipush n => K lv (.int ((Int8.ofInt n).toInt32) :: st) h
  | .sipush n => K lv (.int ((Int16.ofInt n).toInt32) :: st) h
  | .lconst n => K lv (.long (Int64.ofNat (n : Nat)) :: st) h
  | .ldc x => e_om (e_IT o x) (fun v => K lv (.int v :: st) h)
  | .ldc_w x => e_om (e_IT o x) (fun v => K lv (.int v :: st) h)
  | .ldc2_w x => e_om (e_LT o x) (fun v => K lv (.long v :: st) h)
  | .iload i => e_ldi lv i (fun x => K lv (.int x :: st) h)
  | .iload_n i => e_ldi lv (i : Nat) (fun x => K lv (.int x :: st) h)
  | .lload i => e_ldl lv i (fun x => K lv (.long x :: st) h)
  | .lload_n i => e_ldl lv (i : Nat) (fun x => K lv (.long x :: st) h)
  | .aload i => e_lda lv i (fun x => K lv (x :: st) h)
  | .aload_n i => e_lda lv (i : Nat) (fun x => K lv (x :: st) h)
  | .istore i => e_p1i st (fun x r => e_sto lv i (.int x) (fun lv => K lv r h))
  | .istore_n i => e_p1i st (fun x r => e_sto lv (i : Nat) (.int x) (fun lv => K lv r h))
  | .lstore i => e_p1l st (fun x r => e_sto2 lv i (.long x) (fun lv => K lv r h))
  | .lstore_n i => e_p1l st (fun x r => e_sto2 lv (i : Nat) (.long x) (fun lv => K lv r h))
  | .astore i => e_p1a st (fun x r => e_sto lv i x (fun lv => K lv r h))
  | .astore_n i => e_p1a st (fun x r => e_sto lv (i : Nat) x (fun lv => K lv r h))
  | .iinc i n => e_ldi lv i (fun x => e_sto lv i (.int (x + Int32.ofInt n)) (fun lv => K lv st h))
  | .iadd => e_p1i st (fun y r => e_p1i r (fun x r => K lv (.int (x + y) :: r) h))
  | .isub => e_p1i st (fun y r => e_p1i r (fun x r => K lv (.int (x - y) :: r) h))
  | .imul => e_p1i st (fun y r => e_p1i r (fun x r => K lv (.int (x * y) :: r) h))
  | .idiv => e_p1i st (fun y r => e_p1i r (fun x r => ¬ y = 0 ∧ K lv (.int (x / y) :: r) h))
  | .irem => e_p1i st (fun y r => e_p1i r (fun x r => ¬ y = 0 ∧ K lv (.int (x - x / y * y) :: r) h))
  | .iand => e_p1i st (fun y r => e_p1i r (fun x r => K lv (.int (x &&& y) :: r) h))
  | .ior => e_p1i st (fun y r => e_p1i r (fun x r => K lv (.int (x ||| y) :: r) h))
  | .ixor => e_p1i st (fun y r => e_p1i r (fun x r => K lv (.int (x ^^^ y) :: r) h))
  | .ishl => e_p1i st (fun y r => e_p1i r (fun x r => K lv (.int (x <<< (y &&& 31)) :: r) h))
  | .ishr => e_p1i st (fun y r => e_p1i r (fun x r => K lv (.int (x >>> (y &&& 31)) :: r) h))
  | .iushr => e_p1i st (fun y r => e_p1i r (fun x r => K lv (.int (x.toUInt32 >>> (y.toUInt32 &&& Int32.toUInt32 31)).toInt32 :: r) h))
  | .ineg => e_p1i st (fun x r => K lv (.int (-x) :: r) h)
  | .i2l => e_p1i st (fun x r => K lv (.long x.toInt64 :: r) h)
  | .l2i => e_p1l st (fun x r => K lv (.int x.toInt32 :: r) h)
  | .ladd => e_p1l st (fun y r => e_p1l r (fun x r => K lv (.long (x + y) :: r) h))
  | .land => e_p1l st (fun y r => e_p1l r (fun x r => K lv (.long (x &&& y) :: r) h))
  | .lor => e_p1l st (fun y r => e_p1l r (fun x r => K lv (.long (x ||| y) :: r) h))
  | .lneg => e_p1l st (fun x r => K lv (.long (-x) :: r) h)
  | .lshl => e_p1i st (fun y r => e_p1l r (fun x r => K lv (.long (x <<< (y.toInt64 &&& 63)) :: r) h))
  | .lshr => e_p1i st (fun y r => e_p1l r (fun x r => K lv (.long (x >>> (y.toInt64 &&& 63)) :: r) h))
  | .lcmp => e_p1l st (fun y r => e_p1l r (fun x r => K lv (.int (lg_cmp x y) :: r) h))
  | .dup => e_p1 st (fun v r => K lv (v :: v :: r) h)
  | .dup2 => e_p1 st (fun v r => e_p1 r (fun w r => K lv (v :: w :: v :: w :: r) h))
  | .pop => e_p1 st (fun _ r => K lv r h)
  | .goto _ => e_tg tg 0 (fun t => J t lv st h)
  | .ifCond c _ => e_p1i st (fun x r => (e_cnd c x 0 → e_tg tg 0 (fun t => J t lv r h)) ∧ (¬ e_cnd c x 0 → K lv r h))
  | .if_icmp c _ => e_p1i st (fun y r => e_p1i r (fun x r => (e_cnd c x y → e_tg tg 0 (fun t => J t lv r h)) ∧ (¬ e_cnd c x y → K lv r h)))
  | .ifnull _ => e_nul st (fun r => e_tg tg 0 (fun t => J t lv r h)) (fun r => K lv r h)
  | .ifnonnull _ => e_nul st (fun r => K lv r h) (fun r => e_tg tg 0 (fun t => J t lv r h))
  | .if_acmp .ne _ => e_p1a st (fun y r => e_p1a r (fun x r => (¬ x = y → e_tg tg 0 (fun t => J t lv r h)) ∧ (x = y → K lv r h)))
  | .tableswitch _ lo hi _ => e_p1i st (fun x r => (x.toInt < lo ∨ hi < x.toInt → e_tg tg 0 (fun t => J t lv r h)) ∧ e_sw x lo (tg.drop 1) (fun t => J t lv r h))
  | .getfield x => e_p1r st (fun a r => e_om (e_FT o x) (fun c => e_gO h a c.1 (fun V => K lv (V c.2.1 :: r) h)))
  | .putfield x => e_p2 st (fun v a r => e_om (e_FT o x) (fun c => e_fit c.2.2 v ∧ e_gO h a c.1 (fun V => K lv r (e_wr h a (e_O c.1 (va_up V c.2.1 v))))))
  | .iaload => e_p1i st (fun i r => e_p1r r (fun a r => e_gI h a 0 (fun n f => vp_in i n ∧ K lv (.int (f i.toNatClampNeg) :: r) h)))
  | .baload => e_p1i st (fun i r => e_p1r r (fun a r => e_gI h a 1 (fun n f => vp_in i n ∧ K lv (.int (f i.toNatClampNeg) :: r) h)))
  | .iastore => e_p1i st (fun x r => e_p1i r (fun i r => e_p1r r (fun a r => e_gI h a 0 (fun n f => vp_in i n ∧ K lv r (e_wr h a (e_I 0 n (va_up f i.toNatClampNeg x)))))))
  | .bastore => e_p1i st (fun x r => e_p1i r (fun i r => e_p1r r (fun a r => (x = 0 ∨ x = 1) ∧ e_gI h a 1 (fun n f => vp_in i n ∧ K lv r (e_wr h a (e_I 1 n (va_up f i.toNatClampNeg x)))))))
  | .aaload => e_p1i st (fun i r => e_p1r r (fun a r => e_gR h a (fun t n f => (t = 2 ∨ t = 3) ∧ vp_in i n ∧ K lv (va_rf (f i.toNatClampNeg) :: r) h)))
  | .aastore => e_p1r st (fun v r => e_p1i r (fun i r => e_p1r r (fun a r => e_gR h a (fun t n f => (t = 2 ∨ t = 3) ∧ e_gO h v (e_ec t) (fun _ => vp_in i n ∧ K lv r (e_wr h a (e_R t n (va_up f i.toNatClampNeg (some v)))))))))
  | .arraylength => e_p1r st (fun a r => e_gl h a (fun n => K lv (.int (Int32.ofNat n) :: r) h))
  | .newarray .int => e_p1i st (fun n r => ¬ n < 0 ∧ n.toNatClampNeg ≤ 65536 ∧ K lv (.ref h.2.1 :: r) (e_al h (e_I 0 n.toNatClampNeg (fun _ => 0)) n.toNatClampNeg))
  | .newarray .boolean => e_p1i st (fun n r => ¬ n < 0 ∧ n.toNatClampNeg ≤ 65536 ∧ K lv (.ref h.2.1 :: r) (e_al h (e_I 1 n.toNatClampNeg (fun _ => 0)) n.toNatClampNeg))
  | .anewarray x => e_p1i st (fun n r => e_om (e_CT o x) (fun ci => e_an ci (fun t => ¬ n < 0 ∧ n.toNatClampNeg ≤ 65536 ∧ K lv (.ref h.2.1 :: r) (e_al h (e_R t n.toNatClampNeg (fun _ => none)) n.toNatClampNeg))))
  | .new x => e_om (e_CT o x) (fun ci => K lv (.ref h.2.1 :: st) (e_al h (e_O ci (e_dv ci)) (e_nf ci)))
  | .checkcast x => e_om (e_CT o x) (fun ci => e_ck h ci st (K lv st h))
  | .getstatic x => e_ldi lv 1 (fun i => vp_in i (e_stI o x).1 ∧ K lv (.int ((e_stI o x).2 i.toNatClampNeg) :: st) h)
  | .invokevirtual x => e_cal g (e_MT o x) lv st h K
  | .invokestatic x => e_cal g (e_MT o x) lv st h K
  | .invokespecial x => e_cal g (e_MT o x) lv st h K
  | .ireturn => (match st with | [.int x] => (e_rt k = some .int ∨ (e_rt k = some .boolean ∧ (x = 0 ∨ x = 1))) ∧ Ψ (some (.int x)) h | _ => False)
  | .lreturn => (match st with | [.long x] => Ψ (some (.long x)) h | _ => False)
  | .areturn => (match st with | [.ref a] => Ψ (some (.ref a)) h | [.null] => Ψ (some .null) h | _ => False)
  | .return_ => (match st with | [] => Ψ none h | _ => False)
  | _ => False
def e_exec (g : e_G) (k o : Nat) : List e_En → Nat → e_Lv → List Value → e_Hp → e_J → e_Q → Prop
  | [], pe, lv, st, h, J, _ => J pe lv st h
  | (_, i, _, tg) :: r, pe, lv, st, h, J, Ψ => e_step g k o i tg lv st h J Ψ (fun lv st h => e_exec g k o r pe lv st h J Ψ)
abbrev e_Cd : Type := List (Nat × List e_En × Nat)
def e_F (g : e_G) (k o : Nat) (cd : e_Cd) (Ψ : e_Q) (X : e_J) (pc : Nat) (lv : e_Lv) (st : List Value) (h : e_Hp) : Prop := match cd.find? (fun b => b.1 == pc) with
  | some b => e_exec g k o b.2.1 b.2.2 lv st h X Ψ
  | none => False
/-- from here the method comes to an end with Ψ: the least solution -/
def e_Sm (g : e_G) (k o : Nat) (cd : e_Cd) (Ψ : e_Q) (pc : Nat) (lv : e_Lv) (st : List Value) (h : e_Hp) : Prop :=
  ∀ X : e_J, (∀ pc lv st h, e_F g k o cd Ψ X pc lv st h → X pc lv st h) → X pc lv st h
