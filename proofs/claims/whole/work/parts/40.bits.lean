/-! bits of Int32 (the family bt .. is out of kit/laws/BITS.to-paste), masks, counting -/
def bt (x : Int32) (i : Nat) : Bool := x.toBitVec.getLsbD i
theorem b_ext {x y : Int32} (h : ∀ i, i < 32 → bt x i = bt y i) : x = y := Int32.toBitVec_inj.mp (BitVec.eq_of_getLsbD_eq (fun i hi => h i hi))
theorem b_or (x y : Int32) (i : Nat) : bt (x ||| y) i = (bt x i || bt y i) := by unfold bt; rw [Int32.toBitVec_or, BitVec.getLsbD_or]
theorem b_and (x y : Int32) (i : Nat) : bt (x &&& y) i = (bt x i && bt y i) := by unfold bt; rw [Int32.toBitVec_and, BitVec.getLsbD_and]
theorem b_xor (x y : Int32) (i : Nat) : bt (x ^^^ y) i = (bt x i ^^ bt y i) := by unfold bt; rw [Int32.toBitVec_xor, BitVec.getLsbD_xor]
theorem b_big {x : Int32} {i : Nat} (h : 32 ≤ i) : bt x i = false := BitVec.getLsbD_of_ge _ _ h
theorem b_m1 : ∀ i, i < 32 → bt (-1) i = true := by decide +kernel
theorem b_0 (i : Nat) : bt 0 i = false := BitVec.getLsbD_zero
theorem s_l : ∀ n, n < 32 → ((nI n &&& 31).toBitVec.smod 32).toNat = n := by decide +kernel
theorem s_u : ∀ n, n < 32 → (((nI n).toUInt32 &&& Int32.toUInt32 31).toBitVec % 32).toNat = n := by decide +kernel
theorem b_shl (n : Nat) (hn : n < 32) (x : Int32) {i : Nat} (hi : i < 32) : bt (x <<< (nI n &&& 31)) i = (decide (n ≤ i) && bt x (i - n)) := by
  unfold bt
  rw [Int32.toBitVec_shiftLeft]
  show (x.toBitVec <<< ((nI n &&& 31).toBitVec.smod 32).toNat).getLsbD i = _
  rw [s_l n hn, BitVec.getLsbD_shiftLeft]
  rcases Nat.lt_or_ge i n with h | h
  · simp [h, Nat.not_le.mpr h]
  · simp [hi, h, Nat.not_lt.mpr h]
theorem b_ushr (n : Nat) (hn : n < 32) (x : Int32) (i : Nat) : bt ((x.toUInt32 >>> ((nI n).toUInt32 &&& Int32.toUInt32 31)).toInt32) i = bt x (n + i) := by
  show (x.toUInt32 >>> ((nI n).toUInt32 &&& Int32.toUInt32 31)).toBitVec.getLsbD i = x.toUInt32.toBitVec.getLsbD (n + i)
  rw [UInt32.toBitVec_shiftRight]
  show (x.toUInt32.toBitVec >>> (((nI n).toUInt32 &&& Int32.toUInt32 31).toBitVec % 32).toNat).getLsbD i = _
  rw [s_u n hn, BitVec.getLsbD_ushiftRight]
theorem nx_and (a b : Nat) : nI a &&& nI b = nI (a &&& b) := by
  apply Int32.toBitVec_inj.1
  show BitVec.ofNat 32 a &&& BitVec.ofNat 32 b = BitVec.ofNat 32 (a &&& b)
  apply BitVec.eq_of_getLsbD_eq
  intro i hi
  simp [hi]
theorem nx_xor (a b : Nat) : nI a ^^^ nI b = nI (a ^^^ b) := by
  apply Int32.toBitVec_inj.1
  show BitVec.ofNat 32 a ^^^ BitVec.ofNat 32 b = BitVec.ofNat 32 (a ^^^ b)
  apply BitVec.eq_of_getLsbD_eq
  intro i hi
  simp [hi]
theorem b_1 : ∀ i, i < 32 → bt 1 i = decide (i = 0) := by decide +kernel
theorem b_low : ∀ i, i < 32 → ∀ j, j < 32 → bt (((1 : Int32) <<< (nI i &&& 31)) - 1) j = decide (j < i) := by decide +kernel
theorem b_nI (n i : Nat) : i < 32 → bt (nI n) i = n.testBit i := by
  intro hi
  show (BitVec.ofNat 32 n).getLsbD i = n.testBit i
  rw [BitVec.getLsbD_ofNat]
  simp [hi]
/-- LetterNet.bit -/
theorem p_bit (x : Int32) {i : Nat} (hi : i < 32) : f_X5_bit x (nI i) = if bt x i = true then 1 else 0 := by
  apply b_ext
  intro j hj
  unfold f_X5_bit
  rw [b_and, b_ushr i hi, b_1 j hj]
  by_cases h0 : j = 0
  · subst h0
    by_cases hb : bt x i = true
    · rw [if_pos hb]; simp [hb, b_1 0 (by omega)]
    · rw [if_neg hb]; simp [hb, b_0]
  · by_cases hb : bt x i = true
    · rw [if_pos hb, b_1 j hj]; simp [h0]
    · rw [if_neg hb, b_0]; simp [h0]
/-- LetterNet.withBit -/
theorem p_withBit (x : Int32) {i : Nat} (hi : i < 32) (v : Bool) {j : Nat} (hj : j < 32) : bt (f_X5_withBit x (nI i) (if v = true then 1 else 0)) j = if j = i then v else bt x j := by
  unfold f_X5_withBit
  rw [b_or, b_and, b_xor, b_shl i hi _ hj, b_shl i hi _ hj, b_m1 j hj]
  have h1 : ∀ k, k < 32 → bt (if v = true then (1 : Int32) else 0) k = (decide (k = 0) && v) := by
    intro k hk
    cases v
    · simp [b_0]
    · simp [b_1 k hk]
  rw [b_1 (j - i) (by omega), h1 (j - i) (by omega)]
  by_cases h : j = i
  · subst h
    simp
  · rw [if_neg h]
    by_cases h2 : i ≤ j
    · have h3 : ¬ (j - i = 0) := by omega
      simp [h2, h3]
    · simp [h2]
/-- LetterNet$Network.withoutPlace -/
theorem p_without (x : Int32) {i : Nat} (hi : i < 31) {j : Nat} (hj : j < 32) : bt (f_X1_withoutPlace x (nI i)) j = if j < i then bt x j else bt x (j + 1) := by
  unfold f_X1_withoutPlace
  rw [b_or, b_and, b_and, b_xor, b_low i (by omega) j hj, b_m1 j hj]
  have h1 : bt (UInt32.toInt32 (Int32.toUInt32 x >>> (Int32.toUInt32 1 &&& Int32.toUInt32 31))) j = bt x (1 + j) := b_ushr 1 (by omega) x j
  rw [h1, Nat.add_comm 1 j]
  by_cases h : j < i <;> simp [h]
/-! counting bits -/
def swN (x : Nat) : Nat :=
  let a := x - ((x / 2) &&& 1431655765)
  let b := (a &&& 858993459) + ((a / 4) &&& 858993459)
  let c := (b + b / 16) &&& 252645135
  let d := c + c / 256
  let e := d + d / 65536
  e &&& 63
def q_chk : Nat → Nat → Nat → Bool
  | 0, p, c => Nat.beq (swN p) c
  | d + 1, p, c => q_chk d p c && q_chk d (p + 2 ^ d) (c + 1)
/-- how many of the first k hold -/
def q_cnt (f : Nat → Bool) : Nat → Nat
  | 0 => 0
  | k + 1 => q_cnt f k + (if f k = true then 1 else 0)
set_option maxRecDepth 100000 in
theorem q_all : q_chk 18 0 0 = true := by decide +kernel
theorem q_spec : ∀ (d p c : Nat), q_chk d p c = true → ∀ x, x < 2 ^ d → swN (p + x) = c + q_cnt (fun i => x.testBit i) d
  | 0, p, c, h, x, hx => by
    have hx0 : x = 0 := by omega
    subst hx0
    exact Nat.eq_of_beq_eq_true h
  | d + 1, p, c, h, x, hx => by
    rw [q_chk, Bool.and_eq_true] at h
    have hp : 2 ^ (d + 1) = 2 ^ d + 2 ^ d := by rw [Nat.pow_succ]; omega
    rw [q_cnt]
    by_cases hd : x < 2 ^ d
    · have h1 := q_spec d p c h.1 x hd
      rw [h1, if_neg (by rw [Nat.testBit_lt_two_pow hd]; simp)]
      omega
    · obtain ⟨y, rfl⟩ : ∃ y, x = 2 ^ d + y := ⟨x - 2 ^ d, by omega⟩
      have hy : y < 2 ^ d := by omega
      have h1 := q_spec d (p + 2 ^ d) (c + 1) h.2 y hy
      have h2 : (2 ^ d + y).testBit d = true := by
        rw [Nat.testBit_two_pow_add_eq, Nat.testBit_lt_two_pow hy]; rfl
      have h3 : q_cnt (fun i => (2 ^ d + y).testBit i) d = q_cnt (fun i => y.testBit i) d := by
        have key : ∀ k, k ≤ d → q_cnt (fun i => (2 ^ d + y).testBit i) k = q_cnt (fun i => y.testBit i) k := by
          intro k
          induction k with
          | zero => intro _; rfl
          | succ k ih =>
            intro hk
            rw [q_cnt, q_cnt, ih (by omega), Nat.testBit_two_pow_add_gt (by omega)]
        exact key d (Nat.le_refl d)
      rw [if_pos h2, h3, ← Nat.add_assoc, h1]
      omega
