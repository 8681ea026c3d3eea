/-! getsAll beside the reference -/
section SJ
variable {g : e_G} {Ψ : e_Q} {B : Nat → Option e_Cl} {Z Z1 : k_Z} {P P1 : k_P} {U U1 : k_U} {r r1 : Nat × Nat} {S S1 S2 : m_S} {N own n b l nl nw nr na ne t q q1 q2 o m c T sl mm : Nat} {s1 s2 : Int32} {ch : Nat → List Nat} {v : v_N}
theorem stp.tr (h : stp t q1 s1 S S1) (k : stp t q2 s2 S1 S2) : stp t q2 s2 S S2 := by
  obtain ⟨a1, a2, a3, a4⟩ := h
  obtain ⟨b1, b2, b3, b4⟩ := k
  refine ⟨fun f hf => (b1 f hf).trans (a1 f hf), fun f hf => (b2 f hf).trans (a2 f hf), ?_, ?_⟩
  · rw [b3, a3]; funext u; unfold va_up; split <;> rfl
  · rw [b4, a4]; funext u; unfold va_up; split <;> rfl
theorem stp.rf (h1 : S.2 47 t = s1) (h2 : S.2 71 t = nI q) : stp t q s1 S S := by
  refine ⟨fun _ _ => rfl, fun _ _ => rfl, ?_, ?_⟩
  · funext u; unfold va_up; split
    · rename_i z; rw [z]; exact h1
    · rfl
  · funext u; unfold va_up; split
    · rename_i z; rw [z]; exact h2
    · rfl
/-- what shall be when it waits -/
def G_W (Ψ : e_Q) (B : Nat → Option e_Cl) (N own n b l nr na ne : Nat) (ch : Nat → List Nat) (c T t q mm : Nat) (Z : k_Z) (U : k_U) (r : Nat × Nat) (S : m_S) : Prop :=
  ∀ Z' P' U' r' S2 nl' nw' x q2, I_all n b l nl' nw' nr na ne ch 0 c T S2 → K_all N own n b l nl' nw' nr ne ch 0 Z' P' U' r' S2 → stp t q2 2 S S2 → q ≤ q2 → (∀ u, dl U' own u = dl U own u) → k_ro N x (8 * x) Z.2.1 r Z'.2.1 r' → (S2.1 66).toNatClampNeg = (S.1 66).toNatClampNeg + x → (∀ S' f, mm ≤ f → r_rings t 12 S2 S' → r_gol t f S S') → Ψ (some (.int 0)) (K_H Z' P' U' (B, r'))
/-- what shall be when it has all -/
def G_D (Ψ : e_Q) (B : Nat → Option e_Cl) (N own n b l nr na ne : Nat) (ch : Nat → List Nat) (c T t q mm : Nat) (Z : k_Z) (U : k_U) (r : Nat × Nat) (S : m_S) : Prop :=
  ∀ Z' P0 P' U' r' S2 nl' nw' x q2, I_all n b l nl' nw' nr na ne ch t c T S2 → K_all N own n b l nl' nw' nr ne ch t Z' P0 U' r' S2 → eqA (dl U own t) P0 P' → stp t q2 1 S S2 → q ≤ q2 → (∀ u, dl U' own u = dl U own u) → k_ro N x (8 * x) Z.2.1 r Z'.2.1 r' → (S2.1 66).toNatClampNeg = (S.1 66).toNatClampNeg + x → (∀ S' f, mm ≤ f → r_do t S2 S' → r_gol t f S S') → Ψ (some (.int 1)) (K_H Z' P' U' (B, r'))
theorem G_W.nx (h : G_W Ψ B N own n b l nr na ne ch c T t q (mm + 1) Z U r S) (hs : stp t (q + 1) 1 S S1) (hdl : ∀ u, dl U1 own u = dl U own u) (hro : k_ro N 1 8 Z.2.1 r Z1.2.1 r1) (eLA : (S1.1 66).toNatClampNeg = (S.1 66).toNatClampNeg + 1) (hg : r_gst t S S1) : G_W Ψ B N own n b l nr na ne ch c T t (q + 1) mm Z1 U1 r1 S1 :=
  fun Z' P' U' r' S2 nl' nw' x q2 h1 h2 h3 h4 h5 h6 h7 h8 => h Z' P' U' r' S2 nl' nw' (x + 1) q2 h1 h2 (hs.tr h3) (by omega) (fun u => (h5 u).trans (hdl u)) ((hro.tr h6).le (by omega) (by omega)) (by omega) (fun S' f hf hr => by
    cases f with
    | zero => omega
    | succ f => exact Or.inr (Or.inr ⟨S1, hg, h8 S' f (by omega) hr⟩))
theorem G_D.nx (h : G_D Ψ B N own n b l nr na ne ch c T t q (mm + 1) Z U r S) (hs : stp t (q + 1) 1 S S1) (hdl : ∀ u, dl U1 own u = dl U own u) (hro : k_ro N 1 8 Z.2.1 r Z1.2.1 r1) (eLA : (S1.1 66).toNatClampNeg = (S.1 66).toNatClampNeg + 1) (hg : r_gst t S S1) : G_D Ψ B N own n b l nr na ne ch c T t (q + 1) mm Z1 U1 r1 S1 :=
  fun Z' P0 P' U' r' S2 nl' nw' x q2 h1 h2 h0 h3 h4 h5 h6 h7 h8 => h Z' P0 P' U' r' S2 nl' nw' (x + 1) q2 h1 h2 (by rw [← hdl]; exact h0) (hs.tr h3) (by omega) (fun u => (h5 u).trans (hdl u)) ((hro.tr h6).le (by omega) (by omega)) (by omega) (fun S' f hf hr => by
    cases f with
    | zero => omega
    | succ f => exact Or.inr (Or.inr ⟨S1, hg, h8 S' f (by omega) hr⟩))
theorem s_gets (hg : e_GK g) (hA : e_AK g) (h1 : 1 ≤ t) (h2 : t ≤ b) : ∀ (mm q i m sl : Nat) (Z : k_Z) (P : k_P) (U : k_U) (S : m_S) (nl nw : Nat) (w3 w4 : Option Value), q + mm = 12 → i + mm ≤ 31 → I_all n b l nl nw nr na ne ch t c T S → K_all N own n b l nl nw nr ne ch t Z P U (m, sl) S → S.2 47 t = 1 → S.2 71 t = nI q → nds t q S →
    G_W Ψ B N own n b l nr na ne ch c T t q mm Z U (m, sl) S → G_D Ψ B N own n b l nr na ne ch c T t q mm Z U (m, sl) S → e_Sm g 138 12 cd138 Ψ 2 [some (.ref own), some (.ref (dl U own t)), some (.int (nI i)), w3, w4] [] (K_H Z P U (B, (m, sl))) := by
  intro mm
  induction mm with
  | zero =>
    intro q i m sl Z P U S nl nw w3 w4 hq hi hI hK st1 eq hn gW gD
    sorry
  | succ mm ih =>
    intro q i m sl Z P U S nl nw w3 w4 hq hi hI hK st1 eq hn gW gD
    have hak := ask_ok hI hK h1 h2 (Or.inr rfl)
    have hI0 := hI
    have hK0 := hK
    obtain ⟨hL, hD, hE, hLk, hV, hM, hP, hX⟩ := hI
    obtain ⟨E, kLg, hs1, hs5, kDe, kEn, kAs, kLk, kVe, kMi⟩ := hK
    have n40 := hL.2.2.1.1
    obtain ⟨n1, n2⟩ := nl_le hD hLk n40 hP
    have td := dl_t E kDe.1 h1 h2
    obtain ⟨a1, a2, a3, a4, sp, a0, a5, a6⟩ := kAs t h1 h2 (Or.inr rfl)
    obtain ⟨oa, ka, b1, b2, b3, b4, b5⟩ := hX t h1 h2 (Or.inr rfl)
    have hsp : sp ≤ 100 := by omega
    obtain ⟨nn1, nn2⟩ := nn_ok (d := dl U own t) hs1.2 hL.2.2.1 hak a1 a2 a3 a4 a5 hsp eq (by omega) a6
    sorry
end SJ
