/-! numbers as sets of bits -/
def k_b (x : Int32) (i : Nat) : Bool := x.toBitVec.getLsbD i
theorem k_bext {x y : Int32} (h : ∀ i, i < 32 → k_b x i = k_b y i) : x = y := Int32.toBitVec_inj.mp (BitVec.eq_of_getLsbD_eq (fun i hi => h i hi))
theorem k_bor {x y : Int32} {i : Nat} : k_b (x ||| y) i = (k_b x i || k_b y i) := by
  unfold k_b
  rw [Int32.toBitVec_or, BitVec.getLsbD_or]
theorem k_band {x y : Int32} {i : Nat} : k_b (x &&& y) i = (k_b x i && k_b y i) := by
  unfold k_b
  rw [Int32.toBitVec_and, BitVec.getLsbD_and]
theorem k_bxor {x y : Int32} {i : Nat} : k_b (x ^^^ y) i = (k_b x i ^^ k_b y i) := by
  unfold k_b
  rw [Int32.toBitVec_xor, BitVec.getLsbD_xor]
theorem k_bm1 : ∀ i, i < 32 → k_b (-1) i = true := by decide +kernel
theorem k_b0 {i : Nat} : k_b 0 i = false := BitVec.getLsbD_zero
theorem k_bone : ∀ n, n < 32 → ∀ i, i < 32 → k_b ((1 : Int32) <<< (nI n &&& 31)) i = decide (n = i) := by decide +kernel
theorem k_b1 : ∀ i, i < 32 → k_b 1 i = decide (i = 0) := by decide +kernel
theorem k_and1 {x : Int32} : (x &&& 1 = 1) = (k_b x 0 = true) := by
  refine propext ⟨fun h => ?_, fun h => k_bext (fun i hi => ?_)⟩
  · have := congrArg (fun z => k_b z 0) h
    simp only [k_band, k_b1 0 (by omega)] at this
    simpa using this
  · rw [k_band, k_b1 i hi]
    by_cases e : i = 0
    · subst e; simp [h]
    · simp [e]
theorem k_sm : ∀ n, n < 32 → ((nI n &&& 31).toBitVec.smod 32).toNat = n := by decide +kernel
theorem k_bshr {x : Int32} {n : Nat} (hn : n < 32) : k_b (x >>> (nI n &&& 31)) 0 = k_b x n := by
  unfold k_b
  show (BitVec.sshiftRight x.toBitVec ((nI n &&& 31).toBitVec.smod 32).toNat).getLsbD 0 = x.toBitVec.getLsbD n
  rw [k_sm n hn, BitVec.getLsbD_sshiftRight]
  simp [hn]
theorem k_hasb {x : Int32} {n : Nat} (hn : n < 32) : k_has x (nI n) = k_b x n := by
  unfold k_has
  rw [Bool.eq_iff_iff, decide_eq_true_iff, k_and1, k_bshr hn]
theorem k_bne {x : Int32} {n : Nat} (hn : n < 32) : (x &&& ((1 : Int32) <<< (nI n &&& 31)) = 0) = (k_b x n = false) := by
  refine propext ⟨fun h => ?_, fun h => k_bext (fun i hi => ?_)⟩
  · have := congrArg (fun z => k_b z n) h
    simp only [k_band, k_bone n hn n hn, k_b0] at this
    simpa using this
  · rw [k_band, k_bone n hn i hi, k_b0]
    by_cases e : n = i
    · subst e; simp [h]
    · simp [e]
