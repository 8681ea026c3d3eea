/-! breakRings: what its calls ask for -/
section SZ
variable {Z : k_Z} {P : k_P} {U : k_U} {r : Nat × Nat} {S : m_S} {N own n b l nl nw nr na ne t q cur c T : Nat} {ch : Nat → List Nat}
theorem gl_ok (hI : I_all n b l nl nw nr na ne ch cur c T S) (hK : K_all N own n b l nl nw nr ne ch cur Z P U r S) : k_gl P U own n := by
  obtain ⟨hL, hD, hE, hLk, hV, hM, hP, hX⟩ := hI
  obtain ⟨E, kLg, hs1, hs5, kDe, kEn, kAs, kLk, kVe, kMi⟩ := hK
  obtain ⟨n1, n2⟩ := nl_le hD hLk hL.2.2.1.1 hP
  exact fun o ho => ⟨(lw_of hLk kLk ho).1, (lw_of hLk kLk ho).2, by rw [hl_len kLk ho]; have := n2 o; omega, by have := ql_len kLk ho; have := hLk.2.2.1; omega⟩
theorem hw_ok (hI : I_all n b l nl nw nr na ne ch cur c T S) (hK : K_all N own n b l nl nw nr ne ch cur Z P U r S) : ∀ d x, d ∈ U.2.1 (own + 15) → U.1 d = some x → k_lw P x ∧ ∃ o, o < n ∧ P.1 61 x = nI o := fun d x hd hx => by
  have hgl := gl_ok hI hK
  obtain ⟨hL, hD, hE, hLk, hV, hM, hP, hX⟩ := hI
  obtain ⟨E, kLg, hs1, hs5, kDe, kEn, kAs, kLk, kVe, kMi⟩ := hK
  rw [kDe.2.2.2.2.2.1] at hd
  obtain ⟨u, u1, u2⟩ := List.mem_map.mp hd
  have hu := (hD.2.2.2.2.2.2.2.2.1 u).mp u1
  rw [← u2] at hx
  obtain ⟨o, o1, o2, o3, o4⟩ := (kLk.2.2.2.2.2 u hu.1 hu.2.1).2 x hx
  exact ⟨(hgl o o1).2.1 x o2, o, o1, o4⟩
/-- one waits in the class as it does in the reference -/
theorem w_iff (hI : I_all n b l nl nw nr na ne ch cur c T S) (hK : K_all N own n b l nl nw nr ne ch cur Z P U r S) (h1 : 1 ≤ t) (h2 : t ≤ b) : (S.2 47 t = 2 → ∃ y, U.1 (dl U own t) = some y) ∧ (¬ S.2 47 t = 2 → U.1 (dl U own t) = none) := by
  have hI0 := hI
  have hK0 := hK
  obtain ⟨hL, hD, hE, hLk, hV, hM, hP, hX⟩ := hI
  obtain ⟨E, kLg, hs1, hs5, kDe, kEn, kAs, kLk, kVe, kMi⟩ := hK
  have b400 := hD.1
  refine ⟨fun st => ?_, (kLk.2.2.2.2.2 t h1 h2).1⟩
  obtain ⟨k1, ⟨_, k2, _, _⟩, o, ho, eo⟩ := wpos_ok hI0 h1 h2 st
  obtain ⟨y, y1, y2, y3, y4⟩ := can_ok hI0 hK0 k1 ho eo
  obtain ⟨v, b1, b2, b3, b4, b5, _⟩ := kLk.2.2.2.1 o ho y (List.mem_of_getElem? y1)
  have enum : P.1 40 (Z.2.2 y) = nI t := Eq.trans (congrArg (fun z : v_WT => z.1) y2) k2
  rw [b4, (kDe.2.2.1 v b1 b2).1, i_eq (by omega) (by omega)] at enum
  subst enum
  exact ⟨y, b5⟩
/-- what drawEdges leaves: the arrays of the search -/
theorem drawn_ok (hI : I_all n b l nl nw nr na ne ch cur c T S) (hK : K_all N own n b l nl nw nr ne ch cur Z P U r S) : (U.2.1 (own + 15)).length = l ∧ ∀ i, i < l → (U.2.1 (own + 15)).getD i 0 = dl U own (lvf S.2 i) ∧ P.1 40 (dl U own (lvf S.2 i)) = nI (lvf S.2 i) := by
  obtain ⟨hL, hD, hE, hLk, hV, hM, hP, hX⟩ := hI
  obtain ⟨E, kLg, hs1, hs5, kDe, kEn, kAs, kLk, kVe, kMi⟩ := hK
  have e15 := kDe.2.2.2.2.2.1
  refine ⟨by rw [e15, List.length_map, v_lvl], fun i hi => ?_⟩
  have lve : (v_lv l S.2)[i]? = some (lvf S.2 i) := by rw [v_lvg, if_pos hi]; rfl
  have hu := (hD.2.2.2.2.2.2.2.2.1 _).mp (List.mem_of_getElem? lve)
  refine ⟨?_, (kDe.2.2.1 _ hu.1 hu.2.1).1⟩
  rw [e15, List.getD_eq_getElem?_getD, List.getElem?_map, lve]
  rfl
end SZ
