/-! what putting a thing, or placing an object, leaves of the shelves -/
section VG
variable {Z Z' : k_Z} {P P' : k_P} {U U' : k_U} {r r' : Nat × Nat} {A : m_A} {N N' own s s2 n n2 x x0 o : Nat} {so p v dg : Int32} {F : Nat → Int32} {C' : Nat → Nat} {l : List Nat}
theorem Pt.other (E : k_E N own Z U r) (pt : Pt N own s n so p v Z P U r x Z' P' U' r') (ts : Z.1 s = 9) (hne : s2 ≠ s) (hs : k_Sh Z P U s2 n2) (hS : R_sh P U s2 n2 A x0) : k_Sh Z' P' U' s2 n2 ∧ R_sh P' U' s2 n2 A x0 := by
  obtain ⟨E', tx, zz, z2, u1, u2, u3, u4, f1, f2, p1, p2, p3, p4, p5, ro⟩ := pt
  have ts2 := hs.1
  have t1 := (E.1.shf ts).1
  have t2 := (E.1.shf ts2).1
  have uu : U'.2.2 (s2 + 1) = U.2.2 (s2 + 1) := u4 _ (by omega)
  have th : ∀ o, k_th U' s2 o = k_th U s2 o := fun o => by unfold k_th; rw [uu]
  have s2x : s2 ≠ x := fun z => by
    have := zz s2 (by rw [ts2]; decide)
    rw [z, tx, ← z, ts2] at this
    exact absurd this (by decide)
  have thx : ∀ o, o < n2 → k_th U s2 o ≠ x := fun o ho z => by
    have g1 : U'.2.2 (s2 + 1) o = some x := by rw [uu, ← z]; exact hs.2.2.2 o ho
    have g2 : U'.2.2 (s + 1) n = some x := by rw [u3, up_s]
    have := (E'.2.2.2.1 _ o _ n _ (Or.inl (by rw [zz _ (by rw [t2]; decide)]; exact t2)) (Or.inl (by rw [zz _ (by rw [t1]; decide)]; exact t1)) g1 g2).1
    omega
  refine ⟨⟨(zz _ (by rw [ts2]; decide)).trans ts2, (f1 _ _ (E.lt (by rw [ts2]; decide)) s2x (Or.inr hne)).trans hs.2.1, hs.2.2.1, fun o ho => by rw [uu, th]; exact hs.2.2.2 o ho⟩, R_sh.cgU (U := U) ?_ (fun o _ => th o)⟩
  refine hS.keep (fun f hf o ho => ?_) (fun o ho => ?_) rfl rfl rfl (fun _ _ => ⟨rfl, rfl, rfl⟩) (fun _ _ _ => rfl)
  · exact f1 f _ (E.lt (by rw [(k_th_t E.1 hs ho).1]; decide)) (thx o ho) (Or.inl (by rcases hf with h | h | h | h <;> subst h <;> decide))
  · exact f2 _ (E.lt (by rw [(k_th_t E.1 hs ho).2]; decide))
theorem Pl.sh (E : k_E N own Z U r) (pl : Pl N own o so dg Z P U r x N' Z' P' U' r') (hs : k_Sh Z P U s n) (hS : R_sh P U s n A x0) : k_Sh Z' P' U' s n ∧ R_sh P' U' s n A x0 := by
  obtain ⟨hN, E', tx, zz, z2, u1, u2, ux1, ux2, u3, u4, f1, f2, _⟩ := pl
  have ts := hs.1
  obtain ⟨a1, a2, a3, a4, _⟩ := E.1.hse E.2.1
  have t1 := (E.1.shf ts).1
  have uu : U'.2.2 (s + 1) = U.2.2 (s + 1) := u4 _ (fun z => by rw [z, a4] at t1; exact absurd t1 (by decide))
  have th : ∀ o, k_th U' s o = k_th U s o := fun o => by unfold k_th; rw [uu]
  have ne : ∀ a, Z.1 a ≠ 0 → Z.1 a ≠ 10 → a ≠ x := fun a h0 h1 z => by
    have := zz a h0
    rw [z, tx] at this
    rw [z] at h1
    exact h1 this.symm
  obtain ⟨y1, y2, y3, y4⟩ := E'.1.spt tx
  refine ⟨⟨(zz _ (by rw [ts]; decide)).trans ts, (f1 _ _ (E.lt (by rw [ts]; decide)) (ne _ (by rw [ts]; decide) (by rw [ts]; decide))).trans hs.2.1, hs.2.2.1, fun o ho => by rw [uu, th]; exact hs.2.2.2 o ho⟩, R_sh.cgU (U := U) ?_ (fun o _ => th o)⟩
  refine hS.keep (fun f hf o ho => ?_) (fun o ho => ?_) rfl rfl rfl (fun _ _ => ⟨rfl, rfl, rfl⟩) (fun _ _ _ => rfl)
  · have := (k_th_t E.1 hs ho).1
    exact f1 f _ (E.lt (by rw [this]; decide)) (ne _ (by rw [this]; decide) (by rw [this]; decide))
  · have := (k_th_t E.1 hs ho).2
    have t' := zz _ (show Z.1 (k_th U s o + 1) ≠ 0 by rw [this]; decide)
    exact f2 _ (E.lt (by rw [this]; decide)) (fun z => by rw [z, y3, ← z, this] at t'; exact absurd t' (by decide)) (fun z => by rw [z, y4, ← z, this] at t'; exact absurd t' (by decide))
theorem row_sh (E : k_E N own Z U r) (hs : k_Sh Z P U s n) (hS : R_sh P U s n A x0) {a : Nat} : k_Sh (k_zc (k_zt Z r.1 8) C') (k_set1 P r.1 F) (k_wl U a l) s n ∧ R_sh (k_set1 P r.1 F) (k_wl U a l) s n A x0 := by
  have ts := hs.1
  have lt : ∀ a, Z.1 a ≠ 0 → a ≠ r.1 := fun a h => by have := E.lt h; omega
  refine ⟨⟨?_, ?_, hs.2.2.1, hs.2.2.2⟩, ?_⟩
  · show (k_zt Z r.1 8).1 s = _
    rw [k_ztn (lt s (by rw [ts]; decide))]; exact ts
  · rw [k_s1n (lt s (by rw [ts]; decide))]; exact hs.2.1
  · refine R_sh.cgU (U := U) ?_ (fun o _ => rfl)
    refine hS.keep (fun f hf o ho => ?_) (fun o ho => rfl) rfl rfl rfl (fun _ _ => ⟨rfl, rfl, rfl⟩) (fun _ _ _ => rfl)
    exact k_s1n (lt _ (by rw [(k_th_t E.1 hs ho).1]; decide))
end VG
