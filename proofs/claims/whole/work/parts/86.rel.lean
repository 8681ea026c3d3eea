/-! the relation: deals, locks, waits, ends, versions, the rest -/
section RO
def LN (x : v_LT) : v_LT := (x.1, x.2.1, x.2.2.1, if x.2.2.1 = 4 then x.2.2.2.1 else -9, if x.2.2.1 = 4 then x.2.2.2.2.1 else -9, x.2.2.2.2.2.1, x.2.2.2.2.2.2)
def WN (x : v_WT) : v_WT := (x.1, x.2.1, x.2.2.1, if x.2.2.1 = 4 then x.2.2.2.1 else -9, if x.2.2.1 = 4 then x.2.2.2.2.1 else -9, x.2.2.2.2.2)
def LV (Z : k_Z) (P : k_P) (cur y : Nat) : v_LT := (P.1 40 (Z.2.2 y), P.1 61 y, P.1 62 y, P.1 63 y, P.1 64 y, P.1 66 y, b_v (decide (P.1 65 y = P.1 47 (Z.2.2 y)) && (decide (P.1 43 (Z.2.2 y) = 2) || decide (Z.2.2 y = cur))))
def WV (Z : k_Z) (P : k_P) (y : Nat) : v_WT := (P.1 40 (Z.2.2 y), P.1 61 y, P.1 62 y, P.1 63 y, P.1 64 y, P.1 67 y)
/-- those under way, by number -/
def v_lv (l : Nat) (A : m_A) : List Nat := (List.range l).map (fun i => (A 46 i).toNatClampNeg)
/-- the depth of an object as the class counts it -/
def dp (A : m_A) (o : Nat) : Nat := (A 7 o).toNatClampNeg - 1
/-- where the needs of an act begin -/
def o_1 (A : m_A) (t : Nat) : Nat := if A 68 t = 19 then min (A 67 t).toNatClampNeg (A 70 t).toNatClampNeg else (A 67 t).toNatClampNeg
/-- in the middle of an act -/
def inp (A : m_A) (cur t : Nat) : Prop := A 47 t = 2 ∨ t = cur
/-- deals, the reference's side -/
def I_dl (A : m_A) (t : Nat) : Prop := ∃ st lv m q, A 47 t = nI st ∧ 1 ≤ st ∧ st ≤ 4 ∧ A 51 t = nI lv ∧ lv ≤ 4 ∧ (3 ≤ st → lv = 0) ∧ A 52 t = nI m ∧ m ≤ 600 ∧ A 55 t = nI q ∧ q ≤ 600 ∧ ∃ bs : Nat → Nat, ∀ v, 1 ≤ v → v ≤ lv → A 54 (5 * t + v) = nI (bs v) ∧ bs v ≤ m ∧ ∀ v', v ≤ v' → v' ≤ lv → bs v ≤ bs v'
def I_de (b l cur : Nat) (S : m_S) : Prop := b ≤ 400 ∧ S.1 44 = nI b ∧ (∀ t, 1 ≤ t → t ≤ b → I_dl S.2 t) ∧ (∀ t, t < 401 → (t = 0 ∨ b < t) → S.2 47 t = 0 ∧ S.2 48 t = 0 ∧ S.2 51 t = 0 ∧ S.2 52 t = 0 ∧ S.2 55 t = 0 ∧ S.2 56 t = 0 ∧ S.2 57 t = 0) ∧
  S.1 45 = nI l ∧ l ≤ 12 ∧ (∀ i, i < l → ∃ t, S.2 46 i = nI t ∧ 1 ≤ t ∧ t ≤ b) ∧ (v_lv l S.2).Pairwise (· < ·) ∧ (∀ t, t ∈ v_lv l S.2 ↔ 1 ≤ t ∧ t ≤ b ∧ undw S.2 t) ∧ (cur = 0 ∨ (1 ≤ cur ∧ cur ≤ b ∧ S.2 47 cur = 1)) ∧
  (∀ t, 1 ≤ t → t ≤ b → inp S.2 cur t → ∃ o k q, S.2 67 t = nI o ∧ S.2 68 t = nI k ∧ k < 22 ∧ S.2 71 t = nI q ∧ q ≤ 12)
/-- what is asked, the reference's side -/
def I_ak (n b cur : Nat) (A : m_A) : Prop := ∀ t, 1 ≤ t → t ≤ b → inp A cur t → ∃ o k, A 67 t = nI o ∧ o < n ∧ A 68 t = nI k ∧ k < 22 ∧ ar_R n o k (A 69 t) (A 70 t)
/-- ends, the reference's side -/
def I_en (b ne nr : Nat) (ch : Nat → List Nat) (S : m_S) : Prop := S.1 60 = nI ne ∧ ne ≤ b ∧ y_cw (S.2 17) 4 0 nr = ne ∧
  (∀ e, e < ne → ∃ t ρ, S.2 61 (e + 1) = nI t ∧ 1 ≤ t ∧ t ≤ b ∧ S.2 47 t = 3 ∧ S.2 58 t = nI (e + 1) ∧ S.2 59 t = nI ρ ∧ ρ < nr ∧ S.2 17 ρ = 4 ∧ S.2 18 ρ = nI t ∧ y_cw (S.2 17) 4 0 ρ = e ∧ ∀ j ∈ ch t, ar S.2 j < ρ) ∧
  (∀ t, 1 ≤ t → t ≤ b → S.2 47 t = 3 → ∃ e, e < ne ∧ S.2 61 (e + 1) = nI t) ∧ (∀ ρ, ρ < nr → S.2 17 ρ = 4 → S.2 61 (y_cw (S.2 17) 4 0 ρ + 1) = S.2 18 ρ) ∧
  (∀ t, 1 ≤ t → t ≤ b → ¬ S.2 47 t = 3 → S.2 58 t = -9)
/-- one lock, one wait, the reference's side -/
def I_l1 (n b cur : Nat) (A : m_A) (x : v_LT) : Prop := ∃ t o v, x.1 = nI t ∧ 1 ≤ t ∧ t ≤ b ∧ undw A t ∧ x.2.1 = nI o ∧ o < n ∧ (∃ w, w ≤ 4 ∧ x.2.2.1 = nI w) ∧ (x.2.2.1 = 4 → ∃ k, k < 20 ∧ x.2.2.2.1 = nI k) ∧ x.2.2.2.2.2.1 = nI v ∧ v ≤ 4 ∧ nI v ≤ A 51 t ∧ (x.2.2.2.2.2.2 = 0 ∨ (x.2.2.2.2.2.2 = 1 ∧ inp A cur t))
def I_w1 (n b : Nat) (A : m_A) (x : v_WT) : Prop := ∃ t o, x.1 = nI t ∧ 1 ≤ t ∧ t ≤ b ∧ A 47 t = 2 ∧ x.2.1 = nI o ∧ o < n ∧ (∃ w, w ≤ 4 ∧ x.2.2.1 = nI w) ∧ (x.2.2.1 = 4 → ∃ k, k < 20 ∧ x.2.2.2.1 = nI k) ∧ (x.2.2.2.2.2 = 0 ∨ x.2.2.2.2.2 = 1) ∧
  (∀ k, A 68 t = nI k → k < 18 → A 71 t = nI (dp A (A 67 t).toNatClampNeg) → x.2.1 = A 67 t ∧ x.2.2.1 = 4 ∧ x.2.2.2.1 = nI k ∧ x.2.2.2.2.1 = A 69 t) ∧
  ∃ q, A 71 t = nI q ∧ (q ≤ dp A (o_1 A t) + 6 ∧ ∀ k, A 68 t = nI k → k < 18 → q ≤ dp A (A 67 t).toNatClampNeg) ∧ (¬ (x.2.2.1 = 0 ∨ x.2.2.1 = 1) → dp A (o_1 A t) ≤ q)
/-- the same lock -/
def eqL (x y : v_LT) : Prop := x.1 = y.1 ∧ x.2.1 = y.2.1 ∧ x.2.2.1 = y.2.2.1 ∧ (x.2.2.1 = 4 → x.2.2.2.1 = y.2.2.2.1 ∧ x.2.2.2.2.1 = y.2.2.2.2.1)
def xl (t : Nat) (L : List v_LT) : List v_LT := L.filter (fun x => decide (x.1 = nI t) && !(decide (x.2.2.1 = 0) || decide (x.2.2.1 = 1)))
/-- how many locks for acts one may still get -/
def rem7 (A : m_A) (cur t : Nat) : Nat := if A 47 t = 2 ∨ t = cur then (if (A 71 t).toNatClampNeg ≤ dp A (o_1 A t) then 7 else dp A (o_1 A t) + 7 - (A 71 t).toNatClampNeg) else 0
abbrev v_3 : Type := Int32 × Int32 × Int32
def n3 (w k a : Int32) : v_3 := (w, if w = 4 then k else -9, if w = 4 then a else -9)
/-- the kinds of the two parts of an act's needs -/
def kd_1 (A : m_A) (t : Nat) : Int32 := if A 68 t = 19 then (if A 67 t < A 70 t then 16 else 15) else A 68 t
def kd_2 (A : m_A) (t : Nat) : Int32 := if A 68 t = 19 then (if A 67 t < A 70 t then 15 else 16) else 1
/-- the locks for acts that a deal's asks can bring -/
def I_gh (b nl nw cur : Nat) (S : m_S) : Prop := (∀ x ∈ v_W nw S.2, ∀ y ∈ v_L nl S.2, ¬ eqL y (x.1, x.2.1, x.2.2.1, x.2.2.2.1, x.2.2.2.2.1, 0, 0)) ∧ ∃ G : Nat → List v_3, ∀ t, 1 ≤ t → t ≤ b → undw S.2 t → (G t).length ≤ 2 * (S.2 55 t).toNatClampNeg ∧ (∀ x ∈ v_L nl S.2, x.1 = nI t → ¬ (x.2.2.1 = 0 ∨ x.2.2.1 = 1) → n3 x.2.2.1 x.2.2.2.1 x.2.2.2.2.1 ∈ G t) ∧ (∀ x ∈ v_W nw S.2, x.1 = nI t → ¬ (x.2.2.1 = 0 ∨ x.2.2.1 = 1) → n3 x.2.2.1 x.2.2.2.1 x.2.2.2.2.1 ∈ G t) ∧ (inp S.2 cur t → n3 (y_lk (kd_1 S.2 t) (S.2 69 t)) (kd_1 S.2 t) (S.2 69 t) ∈ G t ∧ n3 (y_lk (kd_2 S.2 t) (S.2 69 t)) (kd_2 S.2 t) (S.2 69 t) ∈ G t)
def I_lk (n b nl nw cur : Nat) (ch : Nat → List Nat) (S : m_S) : Prop :=
  S.1 72 = nI nl ∧ S.1 80 = nI nw ∧ nw ≤ 12 ∧ w_ah 13 S.2 ∧ (∀ x ∈ v_L nl S.2, I_l1 n b cur S.2 x) ∧ (∀ x ∈ v_W nw S.2, I_w1 n b S.2 x) ∧ ((v_W nw S.2).map (fun x => x.1)).Nodup ∧ (∀ t, 1 ≤ t → t ≤ b → S.2 47 t = 2 → ∃ x ∈ v_W nw S.2, x.1 = nI t) ∧
  (∀ x ∈ v_L nl S.2, ∀ y ∈ v_L nl S.2, x.2.1 = y.2.1 → x.1 ≠ y.1 → y_cf (S.2 4 x.2.1.toNatClampNeg) x.2.2.1 x.2.2.2.1 x.2.2.2.2.1 y.2.2.1 y.2.2.2.1 y.2.2.2.2.1 = false) ∧
  (v_L nl S.2).Pairwise (fun x y => ¬ eqL x y) ∧
  (∀ t, 1 ≤ t → t ≤ b → undw S.2 t → (xl t (v_L nl S.2)).length + rem7 S.2 cur t ≤ 7 * (S.2 55 t).toNatClampNeg) ∧ I_gh b nl nw cur S ∧
  (∀ t, 1 ≤ t → t ≤ b → undw S.2 t → ∀ p i, (ch t).reverse[p]? = some i → S.2 36 i = 8 ∨ S.2 36 i = 9 ∨ S.2 36 i = 12 ∨ S.2 36 i = 13 → ∃ x ∈ v_L nl S.2, x.1 = nI t ∧ x.2.1 = S.2 35 i ∧ x.2.2.1 = 4 ∧ x.2.2.2.1 = S.2 36 i ∧ x.2.2.2.2.1 = S.2 37 i ∧ x.2.2.2.2.2.2 = 0 ∧ ∃ v, v ≤ 4 ∧ x.2.2.2.2.2.1 = nI v ∧ (1 ≤ v → (S.2 54 (5 * t + v)).toNatClampNeg ≤ p))
/-- the digest of what was just made -/
def dg0 (s v : Int32) : Int32 := if s = 4 then 17 else if s = 5 then y_dgM 0 (fun _ => 0) 0 0 8 17 else v
/-- versions, the reference's side -/
def I_ve (n ne : Nat) (S : m_S) : Prop := ∀ o, o < n → ∃ v, S.2 97 o = nI v ∧ 1 ≤ v ∧ v ≤ ne + 1 ∧ S.2 98 (401 * o) = 0 ∧ S.2 99 (401 * o) = dg0 (S.2 4 o) (S.2 6 o)
/-- the rest of the reference -/
def I_mi (n nr : Nat) (S : m_S) : Prop := S.1 3 = nI n ∧ S.1 32 = nI n ∧ S.1 29 = 0 ∧ (∃ q, q ≤ 16 ∧ S.1 30 = nI q) ∧ (∃ f, f ≤ nr ∧ S.1 14 = nI f) ∧ (∃ q, 1 ≤ q ∧ q ≤ 200 ∧ S.1 1 = nI q) ∧ w_01 40 (S.2 101) ∧ (∃ m, m ≤ 12 ∧ S.1 93 = nI m) ∧ (∃ q, q ≤ 100 ∧ S.1 16 = nI q) ∧ ∃ q, q ≤ 700 ∧ S.1 63 = nI q
/-- what calls may still make -/
def I_po (c T l nr na cur nw : Nat) (S : m_S) : Prop :=
  nr ≤ T ∧ T + ((v_lv l S.2).map (fun t => (S.2 52 t).toNatClampNeg + 1 + (if S.2 47 t = 2 ∨ t = cur then 2 else 0))).sum ≤ 2 * c ∧ c ≤ 512 ∧
  na + ((v_lv l S.2).map (fun t => if S.2 47 t = 2 ∨ t = cur then 1 else 0)).sum ≤ c ∧ ((v_lv l S.2).map (fun t => (S.2 55 t).toNatClampNeg)).sum ≤ c ∧
  (S.1 66).toNatClampNeg + ((v_lv l S.2).map (fun t => if S.2 47 t = 2 then 11 - (S.2 71 t).toNatClampNeg else if t = cur then 12 - (S.2 71 t).toNatClampNeg else 0)).sum ≤ 12 * c ∧ S.1 66 = nI (S.1 66).toNatClampNeg
/-- the class's deals -/
def K_de (own b l nr : Nat) (ch : Nat → List Nat) (P : k_P) (U : k_U) (S : m_S) : Prop :=
  (U.2.1 (own + 14)).length = b ∧ (U.2.1 (own + 14)).Nodup ∧
  (∀ t, 1 ≤ t → t ≤ b → P.1 40 (dl U own t) = nI t ∧ P.1 41 (dl U own t) = S.2 49 t ∧ P.1 42 (dl U own t) = S.2 50 t ∧ P.1 43 (dl U own t) = S.2 47 t ∧ P.1 44 (dl U own t) = S.2 48 t ∧ P.1 45 (dl U own t) = S.2 51 t ∧ P.1 46 (dl U own t) = S.2 52 t ∧ P.1 47 (dl U own t) = S.2 55 t ∧ P.1 48 (dl U own t) = S.2 56 t ∧ P.1 49 (dl U own t) = S.2 57 t ∧ P.1 50 (dl U own t) = S.2 58 t) ∧
  (∀ t, 1 ≤ t → t ≤ b → ∀ v, 1 ≤ v → nI v ≤ S.2 51 t → v ≤ 4 → P.2 (dl U own t + 2) v = S.2 54 (5 * t + v)) ∧
  (∀ t, 1 ≤ t → t ≤ b → ∃ f0, f0 ≤ 2000 ∧ P.1 51 (dl U own t) = nI f0 ∧ (undw S.2 t ∨ S.2 47 t = 3 → (undw S.2 t → f0 ≤ nr) ∧ ∀ j ∈ ch t, f0 ≤ ar S.2 j)) ∧
  U.2.1 (own + 15) = (v_lv l S.2).map (dl U own) ∧ ∀ i t, (v_lv l S.2)[i]? = some t → P.1 52 (dl U own t) = nI i
def K_en (own ne : Nat) (U : k_U) (S : m_S) : Prop := U.2.1 (own + 16) = (List.range ne).map (fun e => dl U own (S.2 61 (e + 1)).toNatClampNeg)
/-- the class's asks -/
def K_as (own b cur : Nat) (P : k_P) (U : k_U) (S : m_S) : Prop := ∀ t, 1 ≤ t → t ≤ b → inp S.2 cur t → P.1 20 (dl U own t + 1) = S.2 67 t ∧ P.1 21 (dl U own t + 1) = S.2 68 t ∧ P.1 22 (dl U own t + 1) = S.2 69 t ∧ P.1 23 (dl U own t + 1) = S.2 70 t ∧ ∃ sp, sp ≤ 12 ∧ P.1 25 (dl U own t + 1) = nI sp ∧ ((P.1 24 (dl U own t + 1) = 0 ∧ S.2 71 t = nI sp ∧ sp ≤ dp S.2 (o_1 S.2 t) + 1 ∧ (S.2 47 t = 2 → sp ≤ dp S.2 (o_1 S.2 t))) ∨ (P.1 24 (dl U own t + 1) = 1 ∧ S.2 71 t = nI (dp S.2 (o_1 S.2 t) + 1 + sp)))
/-- the class's locks and waits -/
def K_lk (own n b nl nw cur : Nat) (Z : k_Z) (P : k_P) (U : k_U) (S : m_S) : Prop :=
  k_Sp U own n ∧
  (∀ o, o < n → (k_hl U own o).map (LV Z P (if cur = 0 then own else dl U own cur)) = (v_LO (nI o) (v_L nl S.2)).map LN ∧ (k_ql U own o).map (WV Z P) = (v_WO (nI o) (v_W nw S.2)).map WN ∧ P.1 180 (k_sp U own o) = S.2 4 o) ∧
  (∀ o, o < n → ∀ y ∈ k_hl U own o, ∃ t q, 1 ≤ t ∧ t ≤ b ∧ undw S.2 t ∧ Z.2.2 y = dl U own t ∧ P.1 65 y = nI q ∧ q ≤ (S.2 55 t).toNatClampNeg) ∧
  (∀ o, o < n → ∀ y ∈ k_ql U own o, ∃ t, 1 ≤ t ∧ t ≤ b ∧ S.2 47 t = 2 ∧ Z.2.2 y = dl U own t ∧ U.1 (dl U own t) = some y ∧ P.1 66 y = S.2 51 t ∧ P.1 65 y = S.2 55 t) ∧
  (∀ o, o < n → (k_hl U own o).Nodup) ∧
  (∀ t, 1 ≤ t → t ≤ b → (¬ S.2 47 t = 2 → U.1 (dl U own t) = none) ∧ ∀ y, U.1 (dl U own t) = some y → ∃ o, o < n ∧ y ∈ k_ql U own o ∧ Z.2.2 y = dl U own t ∧ P.1 61 y = nI o)
/-- the class's versions -/
def K_ve (own n : Nat) (P : k_P) (U : k_U) (S : m_S) : Prop := ∀ o, o < n → ∀ v, S.2 97 o = nI v → v ≤ 401 → P.1 183 (k_sp U own o) = nI (min v 16) ∧ ∀ i, i < min v 16 → P.2 (k_sp U own o + 3) i = S.2 98 (401 * o + (v - min v 16) + i) ∧ P.2 (k_sp U own o + 4) i = S.2 99 (401 * o + (v - min v 16) + i)
/-- the rest of the class -/
def K_mi (own : Nat) (P : k_P) (S : m_S) : Prop :=
  P.1 250 own = S.1 0 ∧ P.1 251 own = S.1 1 ∧ P.1 83 (own + 17) = S.1 2 ∧ P.1 81 (own + 17) = S.1 14 ∧ P.1 82 (own + 17) = S.1 15 ∧
  P.1 200 (own + 25) = S.1 62 ∧ P.1 201 (own + 25) = S.1 92 ∧ P.1 202 (own + 25) = S.1 63 ∧ P.1 203 (own + 25) = S.1 64 ∧ P.1 204 (own + 25) = S.1 65 ∧ P.1 205 (own + 25) = S.1 66 ∧ P.1 206 (own + 25) = S.1 16 ∧
  P.1 125 (own + 19) = S.1 93 ∧ P.1 126 (own + 19) = (if S.1 93 = 0 then -9 else S.1 94) ∧ (∀ i, nI i < S.1 93 → i < 12 → P.2 (own + 24) i = S.2 95 i) ∧
  P.1 103 (own + 3) = S.1 30 ∧ (∀ i, nI i < S.1 30 → i < 16 → P.2 (own + 4) i = S.2 31 i)
/-- room -/
def K_ro (N c T : Nat) (r0 r : Nat × Nat) (C : Nat → Nat) (S : m_S) : Prop := r.1 ≤ r0.1 + k_su C N + T + (S.1 66).toNatClampNeg + 400 * c ∧ r.2 ≤ r0.2 + 4 * k_su C N + 10 * T + 8 * (S.1 66).toNatClampNeg + 3000 * c
end RO
