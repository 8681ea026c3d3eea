/-! bits counted by halves and one by one; acts on one thing, all kinds -/
section RD
variable {P P' P'' P1 : k_P} {S S' S'' S1 : m_S} {p x j : Nat} {s : Int32}
theorem land_dig {m u Y v M : Nat} (hu : u < 2 ^ m) (hv : v < 2 ^ m) : (u + 2 ^ m * Y) &&& (v + 2 ^ m * M) = (u &&& v) + 2 ^ m * (Y &&& M) := by
  apply Nat.eq_of_testBit_eq
  intro q
  rw [Nat.testBit_and, Nat.add_comm u, Nat.add_comm v, Nat.testBit_two_pow_mul_add _ hu, Nat.testBit_two_pow_mul_add _ hv, Nat.add_comm (u &&& v), Nat.testBit_two_pow_mul_add _ (Nat.and_lt_two_pow _ hv)]
  split <;> rw [Nat.testBit_and]
def pc : Nat → Nat → Nat
  | 0, _ => 0
  | n + 1, X => X % 2 + pc n (X / 2)
def m5 : Nat → Nat
  | 0 => 0
  | n + 1 => 1 + 4 * m5 n
def m3 : Nat → Nat
  | 0 => 0
  | n + 1 => 3 + 16 * m3 n
def m0 : Nat → Nat
  | 0 => 0
  | n + 1 => 15 + 256 * m0 n
def two (X : Nat) : Nat := X % 2 + X / 2 % 2
def nib (X : Nat) : Nat := two X + two (X / 4)
def by8 (X : Nat) : Nat := nib X + nib (X / 16)
theorem two_le (X : Nat) : two X ≤ 2 := by unfold two; omega
theorem nib_le (X : Nat) : nib X ≤ 4 := by
  have h1 := two_le X
  have h2 := two_le (X / 4)
  unfold nib; omega
theorem by8_le (X : Nat) : by8 X ≤ 8 := by
  have h1 := nib_le X
  have h2 := nib_le (X / 16)
  unfold by8; omega
def L1 : Nat → Nat → Nat
  | 0, _ => 0
  | n + 1, X => two X + 4 * L1 n (X / 4)
def L2 : Nat → Nat → Nat
  | 0, _ => 0
  | n + 1, X => nib X + 16 * L2 n (X / 16)
def L3 : Nat → Nat → Nat
  | 0, _ => 0
  | n + 1, X => by8 X + 256 * L3 n (X / 256)
theorem and1 {u : Nat} : u &&& 1 = u % 2 := Nat.and_two_pow_sub_one_eq_mod u 1
theorem and3 {u : Nat} : u &&& 3 = u % 4 := Nat.and_two_pow_sub_one_eq_mod u 2
theorem and15 {u : Nat} : u &&& 15 = u % 16 := Nat.and_two_pow_sub_one_eq_mod u 4
theorem and63 {u : Nat} : u &&& 63 = u % 64 := Nat.and_two_pow_sub_one_eq_mod u 6
theorem L1_eq : ∀ n X, X < 4 ^ n → (X / 2 &&& m5 n) + L1 n X = X
  | 0, X, h => by
    have : X = 0 := by simpa using h
    subst this; rfl
  | n + 1, X, h => by
    have ih := L1_eq n (X / 4) (by rw [Nat.pow_succ] at h; omega)
    have e : X / 2 = (X / 2 % 4) + 2 ^ 2 * (X / 4 / 2) := by omega
    rw [m5, L1]
    have := land_dig (m := 2) (u := X / 2 % 4) (Y := X / 4 / 2) (v := 1) (M := m5 n) (by omega) (by omega)
    rw [show 1 + 4 * m5 n = 1 + 2 ^ 2 * m5 n from rfl]
    rw [← e, and1] at this
    rw [this]
    unfold two
    omega
theorem L1_lt : ∀ n X, L1 n X < 4 ^ n
  | 0, X => by simp [L1]
  | n + 1, X => by
    have := L1_lt n (X / 4)
    have h2 := two_le X
    rw [L1, Nat.pow_succ]
    omega
theorem L2_eq : ∀ n X, (L1 (2 * n) X &&& m3 n) + (L1 (2 * n) X / 4 &&& m3 n) = L2 n X
  | 0, X => by simp [m3, L2]
  | n + 1, X => by
    have ih := L2_eq n (X / 16)
    rw [show 2 * (n + 1) = 2 * n + 1 + 1 by omega, L1, L1, Nat.div_div_eq_div_mul, m3, L2, nib]
    have h1 := two_le X
    have h2 := two_le (X / 4)
    rw [show 4 * 4 = 16 from rfl]
    generalize L1 (2 * n) (X / 16) = Z at ih
    generalize two X = t0 at h1
    generalize two (X / 4) = t1 at h2
    have e1 : t0 + 4 * (t1 + 4 * Z) = (t0 + 4 * t1) + 2 ^ 4 * Z := by omega
    have e2 : (t0 + 4 * (t1 + 4 * Z)) / 4 = (t1 + 4 * (Z % 4)) + 2 ^ 4 * (Z / 4) := by omega
    rw [e2, e1, show 3 + 16 * m3 n = 3 + 2 ^ 4 * m3 n from rfl, land_dig (by omega) (by omega), land_dig (by omega) (by omega), and3, and3]
    omega
theorem L2_dig : ∀ n X, L2 n X % 16 ≤ 4
  | 0, X => by simp [L2]
  | n + 1, X => by
    have := nib_le X
    rw [L2]; omega
theorem L2_lt : ∀ n X, L2 n X < 16 ^ n
  | 0, X => by simp [L2]
  | n + 1, X => by
    have := L2_lt n (X / 16)
    have h2 := nib_le X
    rw [L2, Nat.pow_succ]
    omega
theorem L3_eq : ∀ n X, (L2 (2 * n) X + L2 (2 * n) X / 16) &&& m0 n = L3 n X
  | 0, X => by simp [m0, L3]
  | n + 1, X => by
    have ih := L3_eq n (X / 256)
    have hd := L2_dig (2 * n) (X / 256)
    rw [show 2 * (n + 1) = 2 * n + 1 + 1 by omega, L2, L2, Nat.div_div_eq_div_mul, m0, L3, by8]
    have h1 := nib_le X
    have h2 := nib_le (X / 16)
    rw [show 16 * 16 = 256 from rfl]
    generalize L2 (2 * n) (X / 256) = W at ih hd
    generalize nib X = n0 at h1
    generalize nib (X / 16) = n1 at h2
    have e1 : n0 + 16 * (n1 + 16 * W) + (n0 + 16 * (n1 + 16 * W)) / 16 = ((n0 + n1) + 16 * (n1 + W % 16)) + 2 ^ 8 * (W + W / 16) := by omega
    rw [e1, show 15 + 256 * m0 n = 15 + 2 ^ 8 * m0 n from rfl, land_dig (by omega) (by omega), and15, ih]
    omega
theorem pc2 {n X : Nat} : pc (n + 2) X = two X + pc n (X / 4) := by
  rw [pc, pc, Nat.div_div_eq_div_mul, two, Nat.add_assoc]
theorem pc4 {n X : Nat} : pc (n + 4) X = nib X + pc n (X / 16) := by
  rw [show n + 4 = n + 2 + 2 from rfl, pc2, pc2, Nat.div_div_eq_div_mul, nib, Nat.add_assoc]
theorem pc8 {n X : Nat} : pc (n + 8) X = by8 X + pc n (X / 256) := by
  rw [show n + 8 = n + 4 + 4 from rfl, pc4, pc4, Nat.div_div_eq_div_mul, by8, Nat.add_assoc]
def uN (x : Int32) : Nat := x.toBitVec.toNat
theorem uN_lt (x : Int32) : uN x < 4294967296 := x.toBitVec.isLt
theorem uN_add (x y : Int32) : uN (x + y) = (uN x + uN y) % 4294967296 := by
  unfold uN
  rw [Int32.toBitVec_add, BitVec.toNat_add]
theorem uN_sub (x y : Int32) : uN (x - y) = (4294967296 - uN y + uN x) % 4294967296 := by
  unfold uN
  rw [Int32.toBitVec_sub, BitVec.toNat_sub]
theorem uN_and (x y : Int32) : uN (x &&& y) = uN x &&& uN y := by
  unfold uN
  rw [Int32.toBitVec_and, BitVec.toNat_and]
theorem uN_us (x : Int32) (k : UInt32) (y : Int32) (h : y.toUInt32 &&& Int32.toUInt32 31 = k) (hk : k.toNat < 32) : uN (k_us x y) = uN x / 2 ^ k.toNat := by
  unfold k_us
  rw [h]
  show (x.toUInt32 >>> k).toNat = _
  rw [UInt32.toNat_shiftRight, Nat.mod_eq_of_lt hk, Nat.shiftRight_eq_div_pow]
  rfl
theorem uN_inj {x y : Int32} (h : uN x = uN y) : x = y := Int32.toBitVec_inj.mp (BitVec.eq_of_toNat_eq h)
theorem uN_nI {n : Nat} (h : n < 4294967296) : uN (nI n) = n := by
  unfold uN nI
  rw [Int32.toBitVec_ofNat', BitVec.toNat_ofNat]
  exact Nat.mod_eq_of_lt h
theorem y_pop_eq : ∀ (f : Nat) (x n : Int32), uN x < 2 ^ f → y_pop f x n = n + nI (pc f (uN x))
  | 0, x, n, _ => by
    show n = n + nI 0
    exact (Int32.add_zero n).symm
  | f + 1, x, n, h => by
    rw [y_pop]
    by_cases c : x = 0
    · rw [if_pos c]
      subst c
      have z : ∀ f, pc f 0 = 0 := fun f => by
        induction f with
        | zero => rfl
        | succ f ih => rw [pc, Nat.zero_div, ih]
      rw [show uN 0 = 0 from rfl, z]
      exact (Int32.add_zero n).symm
    · rw [if_neg c]
      have e : uN (k_us x 1) = uN x / 2 := uN_us x 1 1 (by decide) (by decide)
      have := y_pop_eq f (k_us x 1) (n + (x &&& 1)) (by rw [e]; rw [Nat.pow_succ] at h; omega)
      unfold k_us at this e
      rw [this, e, pc]
      have e1 : x &&& 1 = nI (uN x % 2) := uN_inj (by
        rw [uN_and, show uN 1 = 1 from rfl, and1, uN_nI (by omega)])
      rw [e1, Int32.add_assoc, i_add]
theorem k_pop_eq (x : Int32) : k_pop x = y_pop 32 x 0 := by
  have hx := uN_lt x
  rw [y_pop_eq 32 x 0 hx, Int32.zero_add]
  have a1 : uN (k_pop1 x) = L1 16 (uN x) := by
    have e := L1_eq 16 (uN x) hx
    have e2 : uN (k_us x 1) = uN x / 2 := uN_us x 1 1 (by decide) (by decide)
    unfold k_pop1
    rw [uN_sub, uN_and, e2, show uN 1431655765 = m5 16 from by decide +kernel]
    omega
  have l1 := L1_lt 16 (uN x)
  have a2 : uN (k_pop2 (k_pop1 x)) = L2 8 (uN x) := by
    have e2 : uN (k_us (k_pop1 x) 2) = uN (k_pop1 x) / 4 := uN_us _ 2 2 (by decide) (by decide)
    unfold k_pop2
    rw [uN_add, uN_and, uN_and, e2, a1, show uN 858993459 = m3 8 from by decide +kernel, L2_eq 8 (uN x)]
    exact Nat.mod_eq_of_lt (L2_lt 8 _)
  have l2 := L2_lt 8 (uN x)
  have a3 : uN (k_pop3 (k_pop2 (k_pop1 x))) = L3 4 (uN x) := by
    have e2 : uN (k_us (k_pop2 (k_pop1 x)) 4) = uN (k_pop2 (k_pop1 x)) / 16 := uN_us _ 4 4 (by decide) (by decide)
    unfold k_pop3
    rw [uN_and, uN_add, e2, a2, show uN 252645135 = m0 4 from by decide +kernel, ← L3_eq 4 (uN x)]
    congr 1
    refine Nat.mod_eq_of_lt ?_
    have hd : L2 8 (uN x) < 5 * 268435456 := by
      have h8 : ∀ n X, 15 * L2 n X + 4 ≤ 4 * 16 ^ n := fun n => by
        induction n with
        | zero => intro X; simp [L2]
        | succ n ih =>
          intro X
          have h1 := ih (X / 16)
          have h2 := nib_le X
          rw [L2, Nat.pow_succ]
          omega
      have := h8 8 (uN x)
      omega
    omega
  have e4 : uN (k_us (k_pop3 (k_pop2 (k_pop1 x))) 8) = uN (k_pop3 (k_pop2 (k_pop1 x))) / 256 := uN_us _ 8 8 (by decide) (by decide)
  have e5 : uN (k_us (k_pop4 (k_pop3 (k_pop2 (k_pop1 x)))) 16) = uN (k_pop4 (k_pop3 (k_pop2 (k_pop1 x)))) / 65536 := uN_us _ 16 16 (by decide) (by decide)
  have a4 : uN (k_pop4 (k_pop3 (k_pop2 (k_pop1 x)))) = (L3 4 (uN x) + L3 4 (uN x) / 256) % 4294967296 := by
    unfold k_pop4
    rw [uN_add, e4, a3]
  have p32 : pc 32 (uN x) = by8 (uN x) + (by8 (uN x / 256) + (by8 (uN x / 256 / 256) + (by8 (uN x / 256 / 256 / 256) + 0))) := by rw [pc8 (n := 24), pc8 (n := 16), pc8 (n := 8), pc8 (n := 0), pc]
  have l3 : L3 4 (uN x) = by8 (uN x) + 256 * (by8 (uN x / 256) + 256 * (by8 (uN x / 256 / 256) + 256 * (by8 (uN x / 256 / 256 / 256) + 256 * 0))) := rfl
  have b0 := by8_le (uN x)
  have b1 := by8_le (uN x / 256)
  have b2 := by8_le (uN x / 256 / 256)
  have b3 := by8_le (uN x / 256 / 256 / 256)
  generalize by8 (uN x) = e0 at *
  generalize by8 (uN x / 256) = e1 at *
  generalize by8 (uN x / 256 / 256) = e2 at *
  generalize by8 (uN x / 256 / 256 / 256) = e3 at *
  apply uN_inj
  rw [uN_nI (by omega)]
  unfold k_pop k_pop5
  rw [uN_and, uN_add, e5, a4, show uN 63 = 63 from rfl, and63, p32, l3]
  have g : (e0 + 256 * (e1 + 256 * (e2 + 256 * (e3 + 256 * 0))) + (e0 + 256 * (e1 + 256 * (e2 + 256 * (e3 + 256 * 0)))) / 256) % 4294967296 = (e0 + e1) + 256 * (e1 + e2) + 65536 * (e2 + e3) + 16777216 * e3 := by omega
  rw [g]
  have g2 : ((e0 + e1) + 256 * (e1 + e2) + 65536 * (e2 + e3) + 16777216 * e3) / 65536 = (e2 + e3) + 256 * e3 := by omega
  rw [g2]
  omega
end RD
