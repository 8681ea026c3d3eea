/-! undoActs: its loop -/
section RM
variable {g : e_G} {Ψ : e_Q} {B : Nat → Option e_Cl} {Z Z' Z'' : k_Z} {P P' P'' : k_P} {U U' U'' : k_U} {r r' : Nat × Nat} {S : m_S} {N own n b nr na t i : Nat} {ch : Nat → List Nat}
/-- all that undoing acts has to do with -/
def R_u (N own n b nr na : Nat) (ch : Nat → List Nat) (Z : k_Z) (P : k_P) (U : k_U) (r : Nat × Nat) (S : m_S) : Prop :=
  k_E N own Z U r ∧ I_lg n b nr na ch S ∧ K_lg own b nr ch P U S ∧ k_Sh Z P U (own + 1) n ∧ R_sh P U (own + 1) n S.2 0
def X_u (U : k_U) (own n d : Nat) (f a : Nat) : Prop := (f = 223 ∧ ∃ o, o < n ∧ a = k_th U (own + 1) o) ∨ f = 149 ∨ (f = 46 ∧ a = d)
def Y_u (U : k_U) (own n : Nat) (a : Nat) : Prop := ∃ o, o < n ∧ a = k_th U (own + 1) o + 1
theorem k_ro.tl {x y : Nat} {C C' : Nat → Nat} (h : k_ro N x y C r C' r') : r.1 ≤ r'.1 ∧ r.2 ≤ r'.2 := ⟨h.1, h.2.1⟩
/-- a world with one more row, and its list longer -/
theorem k_E.row (E : k_E N own Z U r) {l : List Nat} (hl : ∀ y ∈ l, y ∈ U.2.1 (own + 18)) {C' : Nat → Nat} {s' : Nat} (hr : k_ro N 0 0 Z.2.1 (r.1 + 1, s') C' r') : k_E N own (k_zc (k_zt Z r.1 8) C') (k_wl U (own + 18) (l ++ [r.1])) r' := by
  have E' := E
  obtain ⟨w, t, fr, inj, hN⟩ := E
  obtain ⟨a1, a2, a3, a4, a5, a6, a7, a8, a9, a10⟩ := w.hse t
  have a18 := w.log a8
  have w1 : k_W N (k_zt Z r.1 8) U := w.leaf (fr r.1 (Nat.le_refl _)).1 (by omega)
  have ne : ∀ {a : Nat}, Z.1 a ≠ 0 → (k_zt Z r.1 8).1 a = Z.1 a := fun h => k_ztn (by have := E'.lt h; omega)
  have w2 : k_W N (k_zt Z r.1 8) (k_wl U (own + 18) (l ++ [r.1])) := w1.wl (fun h => by rw [ne (by rw [show own + 17 + 1 = own + 18 from rfl] at a18; rw [a18]; decide)] at h; rw [show own + 17 + 1 = own + 18 from rfl] at a18; rw [a18] at h; exact absurd h (by decide)) (fun h => by rw [ne (by rw [show own + 17 + 1 = own + 18 from rfl] at a18; rw [a18]; decide)] at h; rw [show own + 17 + 1 = own + 18 from rfl] at a18; rw [a18] at h; exact absurd h (by decide)) (fun _ x hx => by
    rcases List.mem_append.mp hx with h | h
    · have := w.lro a18 (hl x h)
      rw [ne (by rw [this]; decide)]; exact this
    · rw [List.mem_singleton] at h; subst h; exact k_zts)
  refine ⟨w2.zc hr, ?_, fun a ha => ?_, fun a i a' i' x h1 h2 e1 e2 => ?_, ?_⟩
  · show (k_zt Z r.1 8).1 own = 13
    rw [ne (by rw [t]; decide)]; exact t
  · have h1 : r.1 + 1 ≤ a := Nat.le_trans hr.1 ha
    refine ⟨?_, ?_⟩
    · show (k_zt Z r.1 8).1 a = 0
      rw [k_ztn (by omega)]; exact (fr a (by omega)).1
    · show C' a = 0
      rw [E'.ro hr (by omega)]; exact (fr a (by omega)).2
  · have t1 : ∀ a, (k_zc (k_zt Z r.1 8) C').1 a = 20 ∨ (k_zc (k_zt Z r.1 8) C').1 a = 21 → Z.1 a = 20 ∨ Z.1 a = 21 := fun a h => by
      change (k_zt Z r.1 8).1 a = 20 ∨ (k_zt Z r.1 8).1 a = 21 at h
      by_cases c : a = r.1
      · subst c; rw [k_zts] at h; exact absurd h (by decide)
      · rw [k_ztn c] at h; exact h
    exact inj a i a' i' x (t1 a h1) (t1 a' h2) e1 e2
  · exact hN.cg (Nat.le_trans (Nat.le_succ _) hr.1) (fun a ha => k_ztn (by omega)) rfl
def D_u (N own n b na t d left rem : Nat) (ch : Nat → List Nat) (nr : Nat) (Z : k_Z) (P : k_P) (U : k_U) (r : Nat × Nat) (S : m_S) (Z' : k_Z) (P' : k_P) (U' : k_U) (r' : Nat × Nat) : Prop :=
  R_u N own n b (nr + rem) na (up1 ch t ((ch t).drop rem)) Z' P' U' r' (y_tb t rem S) ∧ w_tb t rem S ∧ FR (X_u U own n d) (Y_u U own n) (fun a => a = own + 18) (fun _ => False) Z P U r Z' P' U' ∧ P'.1 46 d = nI left ∧ k_ro N rem (10 * rem) Z.2.1 r Z'.2.1 r'
theorem up1_up1 {l l' : List Nat} : up1 (up1 ch t l) t l' = up1 ch t l' := by
  funext u
  by_cases c : u = t
  · subst c; rw [up1_s, up1_s]
  · rw [up1_n c, up1_n c, up1_n c]
theorem up1_id : up1 ch t (ch t) = ch := by
  funext u
  by_cases c : u = t
  · subst c; rw [up1_s]
  · rw [up1_n c]
/-- one act undone: all of it -/
theorem D_u1 {l : List Nat} {d x left rem : Nat} (hb : b ≤ 400) (hR : R_u N own n b nr na ch Z P U r S) (h1 : 1 ≤ t) (h2 : t ≤ b) (hu : undw S.2 t) (hc : ch t = i :: l) (hn : nr ≤ 1400) (hx : (U.2.1 (own + 18))[ar S.2 i]? = some x) (td : Z.1 d = 3) (ea : P.1 46 d = nI (left + (rem + 1))) {s' : Nat} {C' : Nat → Nat} (hr : k_ro N 0 0 Z.2.1 (r.1 + 1, r.2 + 10) C' r')
    {v : Int32} (ev : v = nI (left + rem)) {w1 w2 w3 w4 w5 w6 w7 : Int32} (f1 : w1 = P.1 141 x) (f2 : w2 = P.1 142 x) (f3 : w3 = P.1 143 x) (f4 : w4 = P.1 144 x) (f5 : w5 = P.1 145 x) (f6 : w6 = P.1 146 x) (f7 : w7 = nI (ar S.2 i)) :
    w_tb1 t S ∧ R_u N own n b (nr + 1) na (up1 ch t l) (k_zc (k_zt Z r.1 8) C') (k_wr (k_set1 (k_wr (k_revS P U (own + 1) n x) 149 x 1) r.1 (k_rwF 3 w1 w2 w3 w4 w5 w6 w7)) 46 d v) (k_wl U (own + 18) (U.2.1 (own + 18) ++ [r.1])) r' (y_tb1 t S) ∧
    FR (X_u U own n d) (Y_u U own n) (fun a => a = own + 18) (fun _ => False) Z P U r (k_zc (k_zt Z r.1 8) C') (k_wr (k_set1 (k_wr (k_revS P U (own + 1) n x) 149 x 1) r.1 (k_rwF 3 w1 w2 w3 w4 w5 w6 w7)) 46 d v) (k_wl U (own + 18) (U.2.1 (own + 18) ++ [r.1])) ∧ k_ro N 1 10 Z.2.1 r C' r' := by
  obtain ⟨E, hI, hK, hs, hS⟩ := hR
  have ap := E.ap hs
  obtain ⟨o, k, ho, hk, eo, ek, har, hh, hcy, e17, e18, e19, e317⟩ := act_of hI h1 h2 hu hc
  obtain ⟨it1, it2⟩ := I_tb hI h1 h2 hu hc (by omega)
  have hI' := hI
  obtain ⟨g1, g2, g3, g4, g5, g6, g7, g8, g9, g10⟩ := hI'
  have n40 := g3.1
  have hch := g7 t h1 h2 (Or.inl hu)
  rw [hc] at hch
  obtain ⟨a1, a2, a3, a4, a5, a6, a7, a8, a9, b1, b2, b3⟩ := hch.2.2.2.1 i List.mem_cons_self
  obtain ⟨x1, x2, x3, x4, x5, x6, x7, x8⟩ := (hK.2.2.1 _ x hx).1
  have sv := hK.2.2.2.2 t h1 h2 (Or.inl hu) i (by rw [hc]; exact List.mem_cons_self) x hx
  have xm : x ∈ U.2.1 (own + 18) := List.mem_of_getElem? hx
  have t18 := E.1.log (E.1.hse E.2.1).2.2.2.2.2.2.2.1
  have tx : Z.1 x = 8 := E.1.lro t18 xm
  have rlt : ∀ y, y ∈ U.2.1 (own + 18) → y < r.1 := fun y hy => E.lt (by rw [E.1.lro t18 hy]; decide)
  have dlt : d < r.1 := E.lt (by rw [td]; decide)
  have thl : ∀ o, o < n → k_th U (own + 1) o + 1 < r.1 := fun o ho => E.lt (by rw [(k_th_t E.1 hs ho).2]; decide)
  have kk : ∀ m : Nat, m < 22 → (S.2 36 i = nI m) = (k = m) := fun m hm => by rw [ek, i_eq (by omega) (by omega)]
  have hbb : ∃ bb, (k = 18 → bb < n ∧ S.2 38 i = nI bb ∧ (S.2 4 bb = 1 ∨ S.2 4 bb = 6)) ∧ (k = 19 → bb < n ∧ bb ≠ o ∧ S.2 38 i = nI bb ∧ S.2 4 bb = 6) ∧ (S.2 38 i).toNatClampNeg = (if k = 18 ∨ k = 19 then bb else (S.2 38 i).toNatClampNeg) := by
    by_cases c : k = 18
    · obtain ⟨q, q1, q2, q3⟩ := e18 c
      exact ⟨q, fun _ => ⟨q1, q2, q3⟩, fun z => by omega, by rw [if_pos (Or.inl c), q2, i_cl (by omega)]⟩
    · by_cases c2 : k = 19
      · obtain ⟨q, q1, q0, q2, q3⟩ := e19 c2
        exact ⟨q, fun z => by omega, fun _ => ⟨q1, q0, q2, q3⟩, by rw [if_pos (Or.inr c2), q2, i_cl (by omega)]⟩
      · exact ⟨0, fun z => absurd z c, fun z => absurd z c2, by rw [if_neg (by omega)]⟩
  obtain ⟨bb, hb18, hb19, hbc⟩ := hbb
  have rev := revS_ok (F := S.1) (i := i) (r := x) (b := bb) hS hs ap n40 ho hk hh hcy (by rw [x3, ← a6]; exact eo) (by rw [x4, ← a7]; exact ek) (by rw [x5, ← a8]) (by rw [x7, ← b1]) (by rw [x6, ← a9]) (fun z => sv.1 (by rw [show (2 : Int32) = nI 2 from rfl, kk 2 (by omega)]; exact z)) e317 (fun z => ⟨sv.2 (by rw [show (12 : Int32) = nI 12 from rfl, kk 12 (by omega)]; exact z), by rw [← sv.2 (by rw [show (12 : Int32) = nI 12 from rfl, kk 12 (by omega)]; exact z)]; exact b3⟩) e17 hb18 hb19
  have ycb : ∀ f, y_con i k o (S.2 38 i).toNatClampNeg S.2 f = y_con i k o bb S.2 f := fun f => by
    by_cases c : k = 18 ∨ k = 19
    · rw [hbc, if_pos c]
    · have c18 : ¬ k = 18 := fun z => c (Or.inl z)
      have c19 : ¬ k = 19 := fun z => c (Or.inr z)
      unfold y_con
      rw [if_neg c18, if_neg c19, if_neg c18, if_neg c19]
  have ei : S.2 53 t = nI i := hch.2.2.1.1
  have ci : (S.2 53 t).toNatClampNeg = i := by rw [ei, i_cl (by omega)]
  have ck : (S.2 36 i).toNatClampNeg = k := by rw [ek, i_cl (by omega)]
  have co : (S.2 35 i).toNatClampNeg = o := by rw [eo, i_cl (by omega)]
  have eV : ∀ f, f = 9 ∨ f = 10 ∨ f = 11 ∨ f = 12 → (y_tb1 t S).2 f = y_con i k o bb S.2 f := fun f hf => by
    have := ytb_V (t := t) (S := S) hf
    rw [ci, ck, co, ycb] at this
    exact this
  subst ev f1 f2 f3 f4 f5 f6 f7
  have nx : x ≠ r.1 := by have := rlt x xm; omega
  have pf : ∀ f a, a ≠ r.1 → f ≠ 223 → f ≠ 149 → (f = 46 → a ≠ d) → (k_wr (k_set1 (k_wr (k_revS P U (own + 1) n x) 149 x 1) r.1 (k_rwF 3 (P.1 141 x) (P.1 142 x) (P.1 143 x) (P.1 144 x) (P.1 145 x) (P.1 146 x) (nI (ar S.2 i)))) 46 d (nI (left + rem))).1 f a = P.1 f a := fun f a ha hf hf2 hf3 => by
    have e1 : ∀ (Q : k_P) (v : Int32), (k_wr Q 46 d v).1 f a = Q.1 f a := fun Q v => by
      by_cases c : f = 46
      · rw [c]; exact k_ra (hf3 c)
      · exact k_rn c
    rw [e1, k_s1n ha, k_rn hf2, krvS_1 hf]
  have e18' : own + 18 < r.1 := E.lt (by rw [show own + 18 = own + 17 + 1 from rfl, t18]; decide)
  have Kn := K_tb (m := r.1) (U' := k_wl U (own + 18) (U.2.1 (own + 18) ++ [r.1])) (P4 := k_wr (k_set1 (k_wr (k_revS P U (own + 1) n x) 149 x 1) r.1 (k_rwF 3 (P.1 141 x) (P.1 142 x) (P.1 143 x) (P.1 144 x) (P.1 145 x) (P.1 146 x) (nI (ar S.2 i)))) 46 d (nI (left + rem))) hb hI hK h1 h2 hu hc (by omega) hx (fun z => by have := rlt _ z; omega)
    (fun f hf y hy => pf f y (by have := rlt y hy; omega) (by omega) (by omega) (fun z => by omega))
    (fun y hy => by
      have hy' := rlt y hy
      rw [k_rn (by decide), k_s1n (by omega)]
      by_cases c : y = x
      · subst c; rw [if_pos rfl, k_rs]
      · rw [if_neg c, k_ra c, krvS_1 (by decide)])
    (by
      rw [k_rn (by decide), k_rn (by decide), k_rn (by decide), k_rn (by decide), k_rn (by decide), k_rn (by decide), k_rn (by decide), k_rn (by decide), k_rn (by decide), k_s1s, k_s1s, k_s1s, k_s1s, k_s1s, k_s1s, k_s1s, k_s1s, k_s1s]
      exact ⟨rfl, rfl, rfl, rfl, rfl, rfl, rfl, rfl, rfl⟩) k_ls
  have th : ∀ o, k_th (k_wl U (own + 18) (U.2.1 (own + 18) ++ [r.1])) (own + 1) o = k_th U (own + 1) o := fun o => rfl
  refine ⟨it1, ⟨E.row (fun y hy => hy) hr, it2, Kn, ⟨?_, ?_, hs.2.2.1, hs.2.2.2⟩, ?_⟩, ⟨fun a ha => ⟨?_, rfl, rfl⟩, fun f a ha hX => ?_, fun a ha hY => ?_, fun a ha hV => k_ln hV, fun _ _ _ => rfl⟩, ?_⟩
  · show (k_zt Z r.1 8).1 (own + 1) = 9
    rw [k_ztn (by have := E.lt (a := own + 1) (by rw [hs.1]; decide); omega)]; exact hs.1
  · rw [pf _ _ (by have := E.lt (a := own + 1) (by rw [hs.1]; decide); omega) (by decide) (by decide) (fun z => absurd z (by decide))]; exact hs.2.1
  · refine R_sh.keep (P := k_revS P U (own + 1) n x) (U := U) (A := y_con i k o bb S.2) rev.1 (fun f hf q hq => ?_) (fun q hq => ?_) ?_ ?_ ?_ (fun q hq => ⟨?_, ?_, ?_⟩) (fun q _ _ => ?_)
    · have hq' := thl q hq
      rw [k_rn (by omega), k_s1n (by omega), k_rn (by omega)]
    · have hq' := thl q hq
      rfl
    · rw [ytb_A (by decide), ycon_A (by decide) (by decide) (by decide) (by decide)]
    · rw [ytb_A (by decide), ycon_A (by decide) (by decide) (by decide) (by decide)]
    · rw [ytb_A (by decide), ycon_A (by decide) (by decide) (by decide) (by decide)]
    · rw [eV _ (by decide)]
    · rw [eV _ (by decide)]
    · rw [eV _ (by decide)]
    · rw [eV _ (by decide)]
  · show (k_zt Z r.1 8).1 a = Z.1 a
    exact k_ztn (by omega)
  · by_cases c : f = 223
    · have c2 : ∀ o, o < n → a ≠ k_th U (own + 1) o := fun o ho z => hX (Or.inl ⟨c, o, ho, z⟩)
      subst c
      rw [k_rn (by decide), k_s1n (by omega), k_rn (by decide)]
      exact rev.2.1.1 _ a (fun _ => by decide) (fun ⟨o, ho, z⟩ => absurd z (c2 o ho))
    · exact pf f a (by omega) c (fun z => hX (Or.inr (Or.inl z))) (fun z1 z2 => hX (Or.inr (Or.inr ⟨z1, z2⟩)))
  · show (k_revS P U (own + 1) n x).2 a = P.2 a
    exact krvS_2 n40 (fun o ho z => hY ⟨o, ho, z⟩)
  · exact (k_ro.new 1 10).tr hr
end RM
