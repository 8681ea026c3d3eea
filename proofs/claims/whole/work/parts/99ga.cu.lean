/-! who is past its act's own need holds the lock for it -/
section SI
variable {S S1 : m_S} {A : m_A} {n b l nl nl' nw nr na ne t q o c T : Nat} {ch : Nat → List Nat} {v : v_N}
def I_cu (t nl : Nat) (A : m_A) : Prop := ∀ k q, k < 18 → A 68 t = nI k → A 71 t = nI q → q ≤ 12 → dp A (A 67 t).toNatClampNeg < q → ∃ x ∈ v_L nl A, x.1 = nI t ∧ x.2.1 = A 67 t ∧ x.2.2.1 = 4 ∧ x.2.2.2.1 = nI k ∧ x.2.2.2.2.1 = A 69 t
theorem cu_stp (hc : ∀ k, k < 18 → S.2 68 t = nI k → q ≤ dp S.2 (S.2 67 t).toNatClampNeg ∨ I_cu t nl S.2) (eq : S.2 71 t = nI q) (hq : q < 12) {s' : Int32} (hs : stp t (q + 1) s' S S1) {ex : List v_LT} (vL : v_L nl' S1.2 = v_L nl S.2 ++ ex) (hx : ∀ k, k < 18 → S.2 68 t = nI k → q = dp S.2 (S.2 67 t).toNatClampNeg → ∃ x ∈ v_L nl S.2 ++ ex, x.1 = nI t ∧ x.2.1 = S.2 67 t ∧ x.2.2.1 = 4 ∧ x.2.2.2.1 = nI k ∧ x.2.2.2.2.1 = S.2 69 t) : I_cu t nl' S1.2 := by
  intro k q' hk ek eq' hq' hd
  obtain ⟨_, hA, _, hsg⟩ := hs
  unfold dp at hd
  rw [hA 7 (by decide), hA 67 (by decide)] at hd
  rw [hA 68 (by decide)] at ek
  rw [hsg, up_s, i_eq (by omega) (by omega)] at eq'
  rw [vL, hA 67 (by decide), hA 69 (by decide)]
  subst eq'
  by_cases e : q = dp S.2 (S.2 67 t).toNatClampNeg
  · exact hx k hk ek e
  · have hd : dp S.2 (S.2 67 t).toNatClampNeg < q + 1 := hd
    rcases hc k hk ek with hc | hc
    · omega
    · obtain ⟨x, x1, x2⟩ := hc k q hk ek eq (by omega) (by omega)
      exact ⟨x, List.mem_append_left _ x1, x2⟩
theorem cu_gst (hI : I_all n b l nl nw nr na ne ch t c T S) (hak : askOk n S.2 t) (hcu : I_cu t nl S.2) (eq : S.2 71 t = nI q) (hq : q < 12) (hn : nds t q S) (hv : needAt S.2 t q = some v) (ho : o < n) (ov : v.1 = nI o) (hs : stp t (q + 1) 1 S S1) {ex : List v_LT} (vL : v_L nl' S1.2 = v_L nl S.2 ++ ex)
    (hh : (y_held t q o nl S = true ∧ ex = []) ∨ (y_held t q o nl S = false ∧ ex = [(nI t, v.1, v.2.1, v.2.2.1, v.2.2.2, S.2 51 t, 1)])) : I_cu t nl' S1.2 := by
  refine cu_stp (fun _ _ _ => Or.inr hcu) eq hq hs vL (fun k hk ek e => ?_)
  obtain ⟨o', v1, v2, v3, v4, v5, v6, v7⟩ := need_v hI.1.2.2.1 hak hv
  obtain ⟨w1, w2, w3, w4⟩ := v7 k ek hk e
  rcases hh with ⟨h, _⟩ | ⟨_, h⟩
  · rw [(now_ok hI eq hn hv ho ov).2.1, List.any_eq_true] at h
    obtain ⟨x, x1, x2⟩ := h
    obtain ⟨y1, y2⟩ := List.mem_filter.mp x1
    refine ⟨x, List.mem_append_left _ y1, ?_⟩
    unfold v_hf at x2
    rw [w2] at x2
    simp at x2 y2
    exact ⟨x2.1, y2.trans (ov.symm.trans w1), x2.2.1, x2.2.2.1.trans w3, x2.2.2.2.trans w4⟩
  · exact ⟨_, by rw [h]; exact List.mem_append_right _ (List.mem_singleton.mpr rfl), rfl, w1, w2, w3, w4⟩
end SI
