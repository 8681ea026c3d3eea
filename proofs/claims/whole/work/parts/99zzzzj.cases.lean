/-! the law: its cases, its loop, its start -/
def l_av (xs : Nat → Int32) (i : Nat) : Nat → Nat → List Value
  | _, 0 => []
  | j, n + 1 => .int (xs (i + j)) :: l_av xs i (j + 1) n
theorem l_av_len {xs : Nat → Int32} {i : Nat} : ∀ (n j : Nat), (l_av xs i j n).length = n
  | 0, _ => rfl
  | n + 1, j => by
    show (l_av xs i (j + 1) n).length + 1 = n + 1
    rw [l_av_len n (j + 1)]
section LL
variable {g : e_G} {p : Program} {e : Env} {m : MethodId} {below : List Frame} {meth : Method} {c : Code} {b L : Nat} {xs : Nat → Int32} {pc : Nat} {st : List Value} {h : e_Hp} {own i : Nat} {r0 : Nat × Nat}
abbrev l_lv (b own i : Nat) : e_Lv := [some (.ref b), some (.ref own), some (.ref (own + 26)), some (.int (nI i))]
abbrev l_H (own : Nat) (Z : k_Z) (P : k_P) (U : k_U) (r : Nat × Nat) (S : m_S) : e_Hp := m_H (own + 26) S.1 S.2 (K_H Z P U (fun _ => none, r))
theorem l_arg {j : Nat} (C0 : lw_At p g.2.1 m meth c b L xs) (hc : lc_arg pc j = true) (hj : j ≤ 5) (hi : i + 6 ≤ L) (hL : L ≤ 3072) (q : l_W g p e m below meth c b (pc + 5) (l_lv b own i) (.int (xs (i + j)) :: st) h) : l_W g p e m below meth c b pc (l_lv b own i) st h := by
  simp only [lc_arg, Bool.and_eq_true, decide_eq_true_eq] at hc
  obtain ⟨⟨⟨⟨c1, c2⟩, c3⟩, c4⟩, c5⟩ := hc
  refine s_aload C0 c1 rfl ?_
  refine s_iload C0 c2 rfl ?_
  refine s_iconst (x := nI j) C0 c3 rfl ?_
  refine s_iadd C0 c4 ?_
  rw [nI_add]
  refine s_sld C0 c5 (vp_in_nI (by omega) (by omega)) ?_
  rw [nI_clamp (by omega)]
  exact q
theorem l_args (C0 : lw_At p g.2.1 m meth c b L xs) (hi : i + 6 ≤ L) (hL : L ≤ 3072) (n : Nat) : ∀ (j pc : Nat) (st : List Value), lc_args pc j n = true → j + n ≤ 6 → l_W g p e m below meth c b (pc + 5 * n) (l_lv b own i) ((l_av xs i j n).reverse ++ st) h → l_W g p e m below meth c b pc (l_lv b own i) st h := by
  induction n with
  | zero =>
    intro j pc st _ _ q
    have e1 : pc + 5 * 0 = pc := by omega
    have e2 : (l_av xs i j 0).reverse ++ st = st := rfl
    rw [e1, e2] at q
    exact q
  | succ n ih =>
    intro j pc st hc hj q
    have hc2 : (lc_arg pc j && lc_args (pc + 5) (j + 1) n) = true := hc
    obtain ⟨k1, k2⟩ := Bool.and_eq_true_iff.mp hc2
    refine l_arg C0 k1 (by omega) hi hL (ih (j + 1) (pc + 5) _ k2 (by omega) ?_)
    have e3 : pc + 5 + 5 * n = pc + 5 * (n + 1) := by omega
    have e4 : (l_av xs i (j + 1) n).reverse ++ (Value.int (xs (i + j)) :: st) = (l_av xs i j (n + 1)).reverse ++ st := by
      show _ = (Value.int (xs (i + j)) :: l_av xs i (j + 1) n).reverse ++ st
      rw [List.reverse_cons, List.append_assoc]
      rfl
    rw [e3, e4]
    exact q
theorem l_case {n x y off kc km cc : Nat} {Z : k_Z} {P : k_P} {U : k_U} {r : Nat × Nat} {S : m_S} (hg : e_GK g) (C0 : lw_At p g.2.1 m meth c b L xs) (hi : i + 6 ≤ L) (hL : L ≤ 3072) (hc : lc_case pc n x y off kc km = true) (hcc : cc + 1 ≤ 512) (ho : own = e_B g) (hr1 : r0.1 = own + 98) (hr2 : r0.2 ≤ 200000)
    (tw : TW g own r0 kc km (l_av xs i 1 n)) (hV : V own cc r0 Z P U r S) (q : ∀ Z' P' U' r' S', V own (cc + 1) r0 Z' P' U' r' S' → l_W g p e m below meth c b 1075 (l_lv b own i) [] (l_H own Z' P' U' r' S')) : l_W g p e m below meth c b pc (l_lv b own i) [] (l_H own Z P U r S) := by
  simp only [lc_case, Bool.and_eq_true, decide_eq_true_eq] at hc
  obtain ⟨c1, c2, c3, c4, c5, c6, c7, c8, c9, c10, c11, c12, c13⟩ := hc
  have len := l_av_len (xs := xs) (i := i) n 1
  obtain ⟨N, E⟩ := hV.E
  refine s_aload (i := 1) C0 c1 rfl ?_
  refine l_args C0 hi hL n 1 _ _ c2 (by omega) ?_
  refine s_virt (x := x) (k' := kc) (ci := 12) (a := own) (As := l_av xs i 1 n) (st := []) hg C0 (by rw [len]; exact c9) c11 c3 (show 0 ≤ 8 from by decide) ?_ ?_
  · have e0 : (l_H own Z P U r S).1 own = some (e_O 12 (k_V 12 own Z P U)) := by
      show (if own < own + 26 then (K_H Z P U (fun _ => none, r)).1 own else _) = _
      rw [if_pos (by omega)]
      exact k_atO E.2.1 (by decide) (by decide)
    unfold e_isC
    rw [e0]
  · show e_Sc g kc _ _ _
    rw [show l_H own Z P U r S = K_H Z P U ((m_H (own + 26) S.1 S.2 (fun _ => none, r)).1, r) from l_com hV.free]
    refine tw cc Z P U r S _ _ hcc hV (fun a Z' P' U' r' S' hV' hm => ?_)
    have rm := l_room hV' (by omega)
    refine ⟨⟨by show r'.1 - e_B g ≤ 600000; omega, by show r'.2 ≤ 7302250; omega⟩, ?_⟩
    rw [show K_H Z' P' U' ((m_H (own + 26) S.1 S.2 (fun _ => none, r)).1, r') = m_H (own + 26) S.1 S.2 (K_H Z' P' U' (fun _ => none, r')) from by
      rw [show (m_H (own + 26) S.1 S.2 (fun _ => none, r)).1 = (m_H (own + 26) S.1 S.2 (fun _ => none, r')).1 from rfl]
      exact (l_com hV'.free).symm]
    show l_W g p e m below meth c b _ _ [.int a] _
    refine s_aload (i := 2) C0 c4 rfl ?_
    refine l_args C0 hi hL n 1 _ _ c5 (by omega) ?_
    refine s_virt (x := y) (k' := km) (ci := 13) (a := own + 26) (As := l_av xs i 1 n) (st := [.int a]) hg C0 (by rw [len]; exact c10) c12 c6 (show 1 ≤ 8 from by decide) ?_ ?_
    · unfold e_isC
      rw [m_at]
    · show e_Sc g km _ _ _
      refine hm (own + 26) _ _ ⟨⟨by show r'.1 - e_B g ≤ 600000; omega, by show r'.2 ≤ 7302250; omega⟩, ?_⟩
      show l_W g p e m below meth c b _ _ [.int a, .int a] _
      exact s_eq 1075 C0 c7 (by omega) (q Z' P' U' r' S' hV')
end LL
