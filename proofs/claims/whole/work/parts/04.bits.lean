def bt (x : Int32) (i : Nat) : Bool := x.toBitVec.getLsbD i
theorem b_ext {x y : Int32} (h : ∀ i, i < 32 → bt x i = bt y i) : x = y := Int32.toBitVec_inj.mp (BitVec.eq_of_getLsbD_eq (fun i hi => h i hi))
theorem b_or (x y : Int32) (i : Nat) : bt (x ||| y) i = (bt x i || bt y i) := by unfold bt; rw [Int32.toBitVec_or, BitVec.getLsbD_or]
theorem b_and (x y : Int32) (i : Nat) : bt (x &&& y) i = (bt x i && bt y i) := by unfold bt; rw [Int32.toBitVec_and, BitVec.getLsbD_and]
theorem b_xor (x y : Int32) (i : Nat) : bt (x ^^^ y) i = (bt x i ^^ bt y i) := by unfold bt; rw [Int32.toBitVec_xor, BitVec.getLsbD_xor]
theorem b_big {x : Int32} {i : Nat} (h : 32 ≤ i) : bt x i = false := BitVec.getLsbD_of_ge _ _ h
theorem b_m1 : ∀ i, i < 32 → bt (-1) i = true := by decide +kernel
theorem b_0 (i : Nat) : bt 0 i = false := BitVec.getLsbD_zero
theorem s_l : ∀ n, n < 32 → ((nI n &&& 31).toBitVec.smod 32).toNat = n := by decide +kernel
theorem s_u : ∀ n, n < 32 → (((nI n).toUInt32 &&& Int32.toUInt32 31).toBitVec % 32).toNat = n := by decide +kernel
theorem b_shl (n : Nat) (hn : n < 32) (x : Int32) {i : Nat} (hi : i < 32) : bt (x <<< (nI n &&& 31)) i = (decide (n ≤ i) && bt x (i - n)) := by
  unfold bt
  rw [Int32.toBitVec_shiftLeft]
  show (x.toBitVec <<< ((nI n &&& 31).toBitVec.smod 32).toNat).getLsbD i = _
  rw [s_l n hn, BitVec.getLsbD_shiftLeft]
  rcases Nat.lt_or_ge i n with h | h
  · simp [h, Nat.not_le.mpr h]
  · simp [hi, h, Nat.not_lt.mpr h]
theorem b_sshr (n : Nat) (hn : n < 32) (x : Int32) {i : Nat} (hi : i < 32) : bt (x >>> (nI n &&& 31)) i = if n + i < 32 then bt x (n + i) else bt x 31 := by
  unfold bt
  rw [Int32.toBitVec_shiftRight]
  show (x.toBitVec.sshiftRight ((nI n &&& 31).toBitVec.smod 32).toNat).getLsbD i = _
  rw [s_l n hn, BitVec.getLsbD_sshiftRight, BitVec.msb_eq_getLsbD_last]
  simp [hi]
theorem b_1 (i : Nat) : bt 1 i = decide (i = 0) := by
  rcases Nat.lt_or_ge i 32 with h | h
  · exact (by decide +kernel : ∀ i, i < 32 → bt 1 i = decide (i = 0)) i h
  · rw [b_big h, decide_eq_false (by omega)]
/-- a set of validators: is v in it -/
theorem bi_in (x : Int32) {n : Nat} (hn : n < 31) : ((x >>> (nI n &&& 31)) &&& 1) = 0 ↔ bt x n = false := by
  constructor
  · intro h
    have h2 := congrArg (fun z => bt z 0) h
    simp only [b_and, b_1, b_0] at h2
    rw [b_sshr n (by omega) x (by omega), if_pos (by omega)] at h2
    simpa using h2
  · intro h
    apply b_ext
    intro i hi
    rw [b_and, b_1, b_0]
    by_cases h0 : i = 0
    · subst h0
      rw [b_sshr n (by omega) x (by omega), if_pos (by omega)]
      simp [h]
    · simp [h0]
theorem bi_set (x : Int32) {n w : Nat} (hn : n < 32) (hw : w < 32) : bt (x ||| ((1 : Int32) <<< (nI n &&& 31))) w = (bt x w || decide (n = w)) := by
  rw [b_or, b_shl n hn 1 hw, b_1]
  congr 1
  by_cases h : n = w
  · subst h; simp
  · by_cases h2 : n ≤ w
    · have : ¬ (w - n = 0) := by omega
      simp [h, h2, this]
    · simp [h, h2]
/-! the bits of a long -/
def bL (x : Int64) (i : Nat) : Bool := x.toBitVec.getLsbD i
theorem L_ext {x y : Int64} (h : ∀ i, i < 64 → bL x i = bL y i) : x = y := Int64.toBitVec_inj.mp (BitVec.eq_of_getLsbD_eq (fun i hi => h i hi))
theorem L_or (x y : Int64) (i : Nat) : bL (x ||| y) i = (bL x i || bL y i) := by unfold bL; rw [Int64.toBitVec_or, BitVec.getLsbD_or]
theorem L_and (x y : Int64) (i : Nat) : bL (x &&& y) i = (bL x i && bL y i) := by unfold bL; rw [Int64.toBitVec_and, BitVec.getLsbD_and]
theorem L_xor (x y : Int64) (i : Nat) : bL (x ^^^ y) i = (bL x i ^^ bL y i) := by unfold bL; rw [Int64.toBitVec_xor, BitVec.getLsbD_xor]
theorem L_big {x : Int64} {i : Nat} (h : 64 ≤ i) : bL x i = false := BitVec.getLsbD_of_ge _ _ h
theorem L_m1 : ∀ i, i < 64 → bL (-1) i = true := by decide +kernel
theorem L_0 (i : Nat) : bL 0 i = false := BitVec.getLsbD_zero
theorem L_1 (i : Nat) : bL 1 i = decide (i = 0) := by
  rcases Nat.lt_or_ge i 64 with h | h
  · exact (by decide +kernel : ∀ i, i < 64 → bL 1 i = decide (i = 0)) i h
  · rw [L_big h, decide_eq_false (by omega)]
theorem L_s : ∀ n, n < 64 → (((nI n).toInt64 &&& 63).toBitVec.smod 64).toNat = n := by decide +kernel
theorem L_shl (n : Nat) (hn : n < 64) (x : Int64) {i : Nat} (hi : i < 64) : bL (x <<< ((nI n).toInt64 &&& 63)) i = (decide (n ≤ i) && bL x (i - n)) := by
  unfold bL
  rw [Int64.toBitVec_shiftLeft]
  show (x.toBitVec <<< (((nI n).toInt64 &&& 63).toBitVec.smod 64).toNat).getLsbD i = _
  rw [L_s n hn, BitVec.getLsbD_shiftLeft]
  rcases Nat.lt_or_ge i n with h | h
  · simp [h, Nat.not_le.mpr h]
  · simp [hi, h, Nat.not_lt.mpr h]
theorem L_shr (n : Nat) (hn : n < 64) (x : Int64) {i : Nat} (hi : i < 64) : bL (x >>> ((nI n).toInt64 &&& 63)) i = if n + i < 64 then bL x (n + i) else bL x 63 := by
  unfold bL
  rw [Int64.toBitVec_shiftRight]
  show (x.toBitVec.sshiftRight (((nI n).toInt64 &&& 63).toBitVec.smod 64).toNat).getLsbD i = _
  rw [L_s n hn, BitVec.getLsbD_sshiftRight, BitVec.msb_eq_getLsbD_last]
  simp [hi]
theorem L_in (x : Int64) {n : Nat} (hn : n < 63) : ((x >>> ((nI n).toInt64 &&& 63)) &&& 1) = 0 ↔ bL x n = false := by
  constructor
  · intro h
    have h2 := congrArg (fun z => bL z 0) h
    simp only [L_and, L_1, L_0] at h2
    rw [L_shr n (by omega) x (by omega), if_pos (by omega)] at h2
    simpa using h2
  · intro h
    apply L_ext
    intro i hi
    rw [L_and, L_1, L_0]
    by_cases h0 : i = 0
    · subst h0
      rw [L_shr n (by omega) x (by omega), if_pos (by omega)]
      simp [h]
    · simp [h0]
theorem L_bit {n w : Nat} (hn : n < 64) (hw : w < 64) : bL ((1 : Int64) <<< ((nI n).toInt64 &&& 63)) w = decide (n = w) := by
  rw [L_shl n hn 1 hw, L_1]
  by_cases h : n = w
  · subst h; simp
  · by_cases h2 : n ≤ w
    · have : ¬ (w - n = 0) := by omega
      simp [h, h2, this]
    · simp [h, h2]
theorem L_set (x : Int64) {n w : Nat} (hn : n < 64) (hw : w < 64) : bL (x ||| ((1 : Int64) <<< ((nI n).toInt64 &&& 63))) w = (bL x w || decide (n = w)) := by
  rw [L_or, L_bit hn hw]
theorem L_clear (x : Int64) {n w : Nat} (hn : n < 64) (hw : w < 64) : bL (x &&& (((1 : Int64) <<< ((nI n).toInt64 &&& 63)) ^^^ (-1))) w = (bL x w && !decide (n = w)) := by
  rw [L_and, L_xor, L_bit hn hw, L_m1 w hw]
  simp
theorem L_cmp (x : Int64) : lg_cmp x 0 = 0 ↔ x = 0 := by
  unfold lg_cmp
  constructor
  · intro h
    by_cases h1 : x > 0
    · rw [if_pos h1] at h
      exact absurd h (by decide)
    · rw [if_neg h1] at h
      by_cases h2 : x = 0
      · exact h2
      · rw [if_neg h2] at h
        exact absurd h (by decide)
  · intro h
    subst h
    rfl
/-! a checkpoint as one number -/
theorem nx_or (a b : Nat) : nI a ||| nI b = nI (a ||| b) := by
  apply Int32.toBitVec_inj.1
  show BitVec.ofNat 32 a ||| BitVec.ofNat 32 b = BitVec.ofNat 32 (a ||| b)
  apply BitVec.eq_of_getLsbD_eq
  intro i hi
  simp [hi]
theorem ck_mk {e b : Nat} (he : e < 1000) (hb : b < 64) : (nI e <<< ((6 : Int32) &&& 31)) ||| nI b = nI (64 * e + b) := by
  rw [pk_shlN (n := e) ((6 : Int32) &&& 31) 6 (by decide) (by omega), nx_or]
  congr 1
  have h := Nat.two_pow_add_eq_or_of_lt (i := 6) (b := b) (by omega) e
  rw [show e * 2 ^ 6 = 2 ^ 6 * e from Nat.mul_comm _ _, ← h]
theorem ck_ep {e b : Nat} (he : e < 1000) (hb : b < 64) : nI (64 * e + b) >>> ((6 : Int32) &&& 31) = nI e := by
  rw [pk_shrN (n := 64 * e + b) (by omega) ((6 : Int32) &&& 31) 6 (by decide)]
  congr 1
  omega
theorem ck_bl {e b : Nat} (he : e < 1000) (hb : b < 64) : nI (64 * e + b) &&& 63 = nI b := by
  rw [pk_andN (n := 64 * e + b) (by omega) 6 (by decide)]
  congr 1
  omega
