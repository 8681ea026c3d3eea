/-! acts done again, in thought: the reference alone -/
section VI
variable {S : m_S} {A A' A0 : m_A} {n m x0 s : Nat} {st : Nat → m_S → m_S} {P : k_P} {U : k_U} {vm : Int32}
/-- a shelf in thought -/
def u_0 : k_U := (fun _ => none, fun _ => [], fun a i => if a = 1 then some (10 + 2 * i) else none)
def z_0 : k_Z := (fun a => if a = 0 then 9 else 0, fun _ => 0, fun _ => 0)
theorem u0_th (o : Nat) : k_th u_0 0 o = 10 + 2 * o := rfl
def Hs (n : Nat) (A : m_A) (x0 : Nat) : Prop := ∃ P : k_P, R_sh P u_0 0 n A x0
theorem Hs.of (h : R_sh P U s n A x0) : Hs n A x0 := by
  refine ⟨(fun f a => P.1 f (k_th U s ((a - 10) / 2)), fun a => P.2 (k_th U s ((a - 11) / 2) + 1)), fun o ho => ?_⟩
  have e1 : (10 + 2 * o - 10) / 2 = o := by omega
  have e2 : (10 + 2 * o + 1 - 11) / 2 = o := by omega
  obtain ⟨h1, h2, h3, ⟨h4, h5, h6⟩, h7⟩ := h o ho
  rw [u0_th]
  unfold R_vl
  dsimp only
  rw [e1, e2]
  exact ⟨h1, h2, h3, ⟨h4, h5, h6⟩, h7⟩
theorem u0_ap : R_ap u_0 0 n := ⟨fun o o' _ _ e => by rw [u0_th, u0_th] at e; omega, fun o _ => by rw [u0_th]; omega⟩
theorem R_ob.le (h : R_ob n A) (hm : m ≤ n) : R_ob m A := ⟨by have := h.1; omega, fun o ho => h.2 o (by omega)⟩
theorem Hs.step {j : Nat} (h : Hs n S.2 x0) (hob : R_ob n A0) (hx : x0 = 0 ∨ x0 = 40 ∨ x0 = 80) (hst : st_ok x0 st) (hj : aok n A0 j) (hA0 : ∀ f ∈ fp_fx, S.2 f = A0 f) (hit : S.1 29 = 0) (hcs : S.1 32 = nI n) (htr : 0 ≤ S.1 30) (hsz : w_sz S.2) :
    w_wk x0 j S ∧ Hs n (st j S).2 x0 ∧ elS x0 n S.2 (st j S).2 ∧ w_sz (st j S).2 ∧ (∀ f ∈ fp_fx, (st j S).2 f = A0 f) ∧ (st j S).1 29 = 0 ∧ (st j S).1 32 = nI n ∧ 0 ≤ (st j S).1 30 := by
  obtain ⟨P, hS0⟩ := h
  have n40 := hob.1
  have hS : R_sh (k_wr P 161 0 (nI n)) u_0 0 n S.2 x0 := hS0.keep (fun f hf o ho => k_rn (by rcases hf with h | h | h | h <;> subst h <;> decide)) (fun _ _ => rfl) rfl rfl rfl (fun _ _ => ⟨rfl, rfl, rfl⟩) (fun _ _ _ => rfl)
  have hs : k_Sh z_0 (k_wr P 161 0 (nI n)) u_0 0 n := ⟨rfl, k_rs, n40, fun o _ => rfl⟩
  obtain ⟨o, kk, ho, hk, eo, ek, har, hb18⟩ := hj
  have hobS : R_ob n S.2 := by unfold R_ob at hob ⊢; rw [hA0 4 (by decide), hA0 7 (by decide), hA0 5 (by decide)]; exact hob
  have perf := perf_ok (S := S) (k := kk) (a := A0 37 j) (b := A0 38 j) hS hs u0_ap hobS hx ho hk (Or.inl hit) har (fun _ => hcs)
  have eW : y_work (x0 + o) kk (A0 37 j) (A0 38 j) S = y_wk x0 j S := by
    unfold y_wk
    rw [hA0 35 (by decide), hA0 36 (by decide), hA0 37 (by decide), hA0 38 (by decide), eo, ek, i_cl (by omega), i_cl (by omega)]
  rw [eW] at perf
  obtain ⟨q1, q2, q3, q4, q5, q6, q7, q8⟩ := perf
  obtain ⟨s1, s2⟩ := hst j S
  have zf := (z_frW (x := x0 + (S.2 35 j).toNatClampNeg) (k := (S.2 36 j).toNatClampNeg) (a := S.2 37 j) (b := S.2 38 j) (S := S))
  refine ⟨?_, ⟨_, q1.keep (fun _ _ _ _ => rfl) (fun _ _ => rfl) (s2 _ (by decide)) (s2 _ (by decide)) (s2 _ (by decide)) (fun _ _ => ⟨by rw [s2 _ (by decide)], by rw [s2 _ (by decide)], by rw [s2 _ (by decide)]⟩) (fun _ _ _ => by rw [s2 _ (by decide)])⟩, ⟨fun i hi => by rw [s2 _ (by decide), s2 _ (by decide), s2 _ (by decide)]; exact q7.2.1 i hi, fun i hi => by rw [s2 _ (by decide)]; exact q7.2.2 i hi⟩, fun x hx => ?_, fun f hf' => ?_, ?_, ?_, ?_⟩
  · refine ⟨o, kk, by omega, hk, by rw [hA0 35 (by decide)]; exact eo, by rw [hA0 36 (by decide)]; exact ek, htr, hsz, fun z1 z2 => by rw [hA0 37 (by decide)]; exact har.1 z1 z2, fun z1 z2 => by rw [hA0 37 (by decide)]; exact har.2.1 z1 z2, fun _ s7 => ?_, fun z => by rw [hA0 38 (by decide)]; exact hb18 z, fun _ => ⟨n, n40, hcs, par_of hobS⟩⟩
    rcases (hS o ho).2.2.2.2 s7 with e | ⟨p, p1, p2⟩
    · exact Or.inl e
    · exact Or.inr ⟨p, by omega, p2⟩
  · rw [s2 _ (by decide)]
    exact (z_szW (x := x0 + (S.2 35 j).toNatClampNeg) (k := (S.2 36 j).toNatClampNeg) (a := S.2 37 j) (b := S.2 38 j) (S := S) x hx (hsz x hx)).1
  · rw [s2 f (by clear hA0 zf s2; revert f; decide), ← hA0 f hf']
    exact zf.2.1 f (by clear hA0 zf s2; revert f; decide) (by clear hA0 zf s2; revert f; decide) (by clear hA0 zf s2; revert f; decide) (by clear hA0 zf s2; revert f; decide) (by clear hA0 zf s2; revert f; decide)
  · rw [s1]; exact (zf.1 _ (by decide) (by decide) (by decide) (by decide) (by decide)).trans hit
  · rw [s1]; exact (zf.1 _ (by decide) (by decide) (by decide) (by decide) (by decide)).trans hcs
  · rw [s1]; exact zf.2.2 htr
theorem Hs.rd (hob : R_ob n A0) (hx : x0 = 0 ∨ x0 = 40 ∨ x0 = 80) (hst : st_ok x0 st) : ∀ (L : List Nat) (b : Bool) (S : m_S), (∀ j ∈ L, aok n A0 j) → Hs n S.2 x0 → (∀ f ∈ fp_fx, S.2 f = A0 f) → S.1 29 = 0 → S.1 32 = nI n → 0 ≤ S.1 30 → w_sz S.2 →
    w_al x0 st L S ∧ Hs n (Rd x0 st L b S).2.2 x0 ∧ elS x0 n S.2 (Rd x0 st L b S).2.2 ∧ w_sz (Rd x0 st L b S).2.2
  | [], _, _, _, h, _, _, _, _, hz => ⟨trivial, h, elS.rf, hz⟩
  | j :: L, b, S, hL, h, hA0, hit, hcs, htr, hsz => by
    obtain ⟨a1, a2, a3, a4, a5, a6, a7, a8⟩ := h.step hob hx hst (hL j (List.mem_cons_self ..)) hA0 hit hcs htr hsz
    obtain ⟨c1, c2, c3, c4⟩ := Hs.rd hob hx hst L (b && (decide ((y_wk x0 j S).2.1 25 = 0) && decide ((y_wk x0 j S).1 = S.2 39 j))) (st j S) (fun y hy => hL y (List.mem_cons_of_mem _ hy)) a2 a5 a6 a7 a8 a4
    rw [Rd]
    exact ⟨⟨a1, c1⟩, c2, a3.tr c3, c4⟩
/-- what a thing just made has -/
def vm_ok (s v : Int32) : Prop := (s = 7 → v = -1) ∧ (s = 4 ∨ s = 5 → v = 0)
/-- one more is as made -/
def asM (x0 n : Nat) (vm : Int32) (A A' : m_A) : Prop := A' 4 = A 4 ∧ A' 5 = A 5 ∧ A' 7 = A 7 ∧ (∀ i, i ≠ x0 + n → A' 9 i = A 9 i ∧ A' 10 i = A 10 i ∧ A' 11 i = A 11 i) ∧ A' 12 = A 12 ∧ A' 9 (x0 + n) = vm ∧ A' 10 (x0 + n) = 0 ∧ A' 11 (x0 + n) = 0
theorem asM_y : asM x0 n vm A (y_asM (x0 + n) vm A) := by
  unfold y_asM
  refine ⟨?_, ?_, ?_, fun i hi => ⟨?_, ?_, ?_⟩, ?_, ?_, ?_, ?_⟩
  all_goals simp (decide := true) only [up_n, up_s, ne_eq, not_false_eq_true]
  all_goals exact up_n hi
theorem new_vl {x : Nat} {s : Int32} (hv : vm_ok s vm) (h1 : P.1 223 x = vm) (h2 : A' 9 (x0 + n) = vm) (h3 : A' 10 (x0 + n) = 0) (h4 : A' 11 (x0 + n) = 0) : R_vl P x A' (x0 + n) s ∧ R_sl m A' (x0 + n) s := by
  refine ⟨⟨fun h => ?_, fun h => ?_, fun _ _ => ⟨h1.trans h2.symm, h3, h4⟩⟩, fun h => Or.inl (by rw [h2]; exact hv.1 h)⟩
  · have := hv.2 (Or.inl h)
    exact ⟨0, by omega, by rw [h1, this]; rfl, by rw [h3]; rfl, by rw [h2, this], h4, fun i hi => by omega⟩
  · have := hv.2 (Or.inr h)
    refine ⟨by rw [h1, h4, this], by rw [h2, this], h3, fun i hi hb => ?_⟩
    rw [h4] at hb
    exact absurd hb (kb_0 hi)
theorem Hs.put (h : Hs n A x0) (ha : asM x0 n vm A A') (hv : vm_ok (A 4 n) vm) : Hs (n + 1) A' x0 := by
  obtain ⟨P, hS⟩ := h
  obtain ⟨e1, e2, e3, e4, e5, e6, e7, e8⟩ := ha
  refine ⟨(fun f a => if a = 10 + 2 * n then (if f = 220 then A 4 n else if f = 221 then A 5 n else if f = 222 then A 7 n - 1 else vm) else P.1 f a, P.2), fun o ho => ?_⟩
  rw [u0_th, e1, e2, e3]
  by_cases c : o = n
  · subst c
    refine ⟨?_, ?_, ?_, (new_vl (m := o + 1) hv ?_ e6 e7 e8)⟩
    · dsimp only; rw [if_pos rfl, if_pos rfl]
    · dsimp only; rw [if_pos rfl, if_neg (by decide), if_pos rfl]
    · dsimp only; rw [if_pos rfl, if_neg (by decide), if_neg (by decide), if_pos rfl, Int32.sub_add_cancel]
    · dsimp only; rw [if_pos rfl, if_neg (by decide), if_neg (by decide), if_neg (by decide)]
  · obtain ⟨h1, h2, h3, ⟨h4, h5, h6⟩, h7⟩ := hS o (by omega)
    rw [u0_th] at h1 h2 h3 h4 h5 h6
    obtain ⟨q1, q2, q3⟩ := e4 (x0 + o) (by omega)
    unfold R_vl R_sl
    dsimp only
    rw [if_neg (by omega), if_neg (by omega), if_neg (by omega), if_neg (by omega), q1, q2, q3, e5]
    refine ⟨h1, h2, h3, ⟨h4, h5, h6⟩, fun z => ?_⟩
    rcases h7 z with e | ⟨q, q1, q2⟩
    · exact Or.inl e
    · exact Or.inr ⟨q, by omega, q2⟩
/-- a shelf with one more thing as it was made -/
theorem put_as {Z Z' : k_Z} {P' : k_P} {U' : k_U} {r r' : Nat × Nat} {N own x : Nat} {so p v : Int32} (hS : R_sh P U s n A x0) (hs : k_Sh Z P U s n) (E : k_E N own Z U r) (hn : n < 40) (pt : Pt N own s n so p v Z P U r x Z' P' U' r') (ha : asM x0 n vm A A') (hv : vm_ok so vm) (es : A 4 n = so) (ep : A 5 n = p) (ed : k_dep P U s n p + 1 = A 7 n) (ev : (if so = 7 then -1 else if k_hv so = true then v else 0) = vm) : k_Sh Z' P' U' s (n + 1) ∧ R_sh P' U' s (n + 1) A' x0 := by
  obtain ⟨E', tx, zz, z2, u1, u2, u3, u4, f1, f2, p1, p2, p3, p4, p5, ro⟩ := pt
  obtain ⟨e1, e2, e3, e4, e5, e6, e7, e8⟩ := ha
  have ts' : Z'.1 s = 9 := by rw [zz s (by rw [hs.1]; decide)]; exact hs.1
  have t1' := (E'.1.shf ts').1
  have thN : k_th U' s n = x := by unfold k_th; rw [u3, up_s]; rfl
  have thO : ∀ o, o < n → k_th U' s o = k_th U s o := fun o ho => by unfold k_th; rw [u3, up_n (by omega)]
  have thX : ∀ o, o < n → k_th U s o ≠ x := fun o ho z => by
    have g1 : U'.2.2 (s + 1) o = some x := by rw [u3, up_n (by omega), ← z]; exact hs.2.2.2 o ho
    have g2 : U'.2.2 (s + 1) n = some x := by rw [u3, up_s]
    have := (E'.2.2.2.1 _ o _ n _ (Or.inl t1') (Or.inl t1') g1 g2).2
    omega
  refine ⟨⟨ts', p5, by omega, fun o ho => ?_⟩, fun o ho => ?_⟩
  · by_cases co : o = n
    · subst co; rw [thN, u3, up_s]
    · rw [thO o (by omega), u3, up_n co]; exact hs.2.2.2 o (by omega)
  · rw [e1, e2, e3]
    by_cases co : o = n
    · subst co
      rw [thN, es, ep]
      exact ⟨p1, p2, by rw [p3]; exact ed, (new_vl (m := o + 1) hv (p4.trans ev) e6 e7 e8)⟩
    · have ho' : o < n := by omega
      obtain ⟨tt, tc⟩ := k_th_t E.1 hs ho'
      have tl : k_th U s o < r.1 := E.lt (by rw [tt]; decide)
      have tl1 : k_th U s o + 1 < r.1 := E.lt (by rw [tc]; decide)
      have fp : ∀ f, f ≠ 161 → P'.1 f (k_th U s o) = P.1 f (k_th U s o) := fun f hf => f1 f _ tl (thX o ho') (Or.inl hf)
      obtain ⟨q1, q2, q3⟩ := e4 (x0 + o) (by omega)
      obtain ⟨h1, h2, h3, ⟨h4, h5, h6⟩, h7⟩ := hS o ho'
      rw [thO o ho']
      unfold R_vl R_sl
      rw [fp 220 (by decide), fp 221 (by decide), fp 222 (by decide), fp 223 (by decide), f2 _ tl1, q1, q2, q3, e5]
      refine ⟨h1, h2, h3, ⟨h4, h5, h6⟩, fun z => ?_⟩
      rcases h7 z with e | ⟨q, q1, q2⟩
      · exact Or.inl e
      · exact Or.inr ⟨q, by omega, q2⟩
/-- what the row of one made says of it -/
theorem row_vm {b i : Nat} (h : I_row b A i) (hw : A 17 i = 0) : A 19 i = nI (md A i) ∧ A 20 i = A 4 (md A i) ∧ A 22 i = A 5 (md A i) ∧ vm_ok (A 4 (md A i)) (A 6 (md A i)) ∧ (if A 4 (md A i) = 7 then -1 else if k_hv (A 4 (md A i)) = true then A 21 i else 0) = A 6 (md A i) := by
  obtain ⟨h1, h2, h3, h4, h5⟩ := h.1 hw
  refine ⟨h1, h2, h3, ⟨fun z => by rw [h4, if_pos z], fun z => ?_⟩, ?_⟩
  · rw [h4]
    have n7 : ¬ A 4 (md A i) = 7 := fun y => by rw [y] at z; exact absurd z (by decide)
    rw [if_neg n7]
    exact h5 (by rcases z with z | z <;> rw [z] <;> decide)
  · rw [h4]
    by_cases c : A 4 (md A i) = 7
    · rw [if_pos c, if_pos c]
    · rw [if_neg c, if_neg c]
      by_cases d : k_hv (A 4 (md A i)) = true
      · rw [if_pos d]
      · rw [if_neg d, h5 (by simpa using d)]
end VI
