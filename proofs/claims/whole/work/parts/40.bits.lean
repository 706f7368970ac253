/-! bits of Int32 (the family bt .. is out of kit/laws/BITS.to-paste), masks, counting -/
def bt (x : Int32) (i : Nat) : Bool := x.toBitVec.getLsbD i
theorem b_ext {x y : Int32} (h : ∀ i, i < 32 → bt x i = bt y i) : x = y := Int32.toBitVec_inj.mp (BitVec.eq_of_getLsbD_eq (fun i hi => h i hi))
theorem b_or (x y : Int32) (i : Nat) : bt (x ||| y) i = (bt x i || bt y i) := by unfold bt; rw [Int32.toBitVec_or, BitVec.getLsbD_or]
theorem b_and (x y : Int32) (i : Nat) : bt (x &&& y) i = (bt x i && bt y i) := by unfold bt; rw [Int32.toBitVec_and, BitVec.getLsbD_and]
theorem b_xor (x y : Int32) (i : Nat) : bt (x ^^^ y) i = (bt x i ^^ bt y i) := by unfold bt; rw [Int32.toBitVec_xor, BitVec.getLsbD_xor]
theorem b_big {x : Int32} {i : Nat} (h : 32 ≤ i) : bt x i = false := BitVec.getLsbD_of_ge _ _ h
theorem b_m1 : ∀ i, i < 32 → bt (-1) i = true := by decide +kernel
theorem b_0 (i : Nat) : bt 0 i = false := BitVec.getLsbD_zero
theorem s_l : ∀ n, n < 32 → ((nI n &&& 31).toBitVec.smod 32).toNat = n := by decide +kernel
theorem s_u : ∀ n, n < 32 → (((nI n).toUInt32 &&& Int32.toUInt32 31).toBitVec % 32).toNat = n := by decide +kernel
theorem b_shl (n : Nat) (hn : n < 32) (x : Int32) {i : Nat} (hi : i < 32) : bt (x <<< (nI n &&& 31)) i = (decide (n ≤ i) && bt x (i - n)) := by
  unfold bt
  rw [Int32.toBitVec_shiftLeft]
  show (x.toBitVec <<< ((nI n &&& 31).toBitVec.smod 32).toNat).getLsbD i = _
  rw [s_l n hn, BitVec.getLsbD_shiftLeft]
  rcases Nat.lt_or_ge i n with h | h
  · simp [h, Nat.not_le.mpr h]
  · simp [hi, h, Nat.not_lt.mpr h]
theorem b_ushr (n : Nat) (hn : n < 32) (x : Int32) (i : Nat) : bt ((x.toUInt32 >>> ((nI n).toUInt32 &&& Int32.toUInt32 31)).toInt32) i = bt x (n + i) := by
  show (x.toUInt32 >>> ((nI n).toUInt32 &&& Int32.toUInt32 31)).toBitVec.getLsbD i = x.toUInt32.toBitVec.getLsbD (n + i)
  rw [UInt32.toBitVec_shiftRight]
  show (x.toUInt32.toBitVec >>> (((nI n).toUInt32 &&& Int32.toUInt32 31).toBitVec % 32).toNat).getLsbD i = _
  rw [s_u n hn, BitVec.getLsbD_ushiftRight]
theorem nx_and (a b : Nat) : nI a &&& nI b = nI (a &&& b) := by
  apply Int32.toBitVec_inj.1
  show BitVec.ofNat 32 a &&& BitVec.ofNat 32 b = BitVec.ofNat 32 (a &&& b)
  apply BitVec.eq_of_getLsbD_eq
  intro i hi
  simp [hi]
theorem nx_xor (a b : Nat) : nI a ^^^ nI b = nI (a ^^^ b) := by
  apply Int32.toBitVec_inj.1
  show BitVec.ofNat 32 a ^^^ BitVec.ofNat 32 b = BitVec.ofNat 32 (a ^^^ b)
  apply BitVec.eq_of_getLsbD_eq
  intro i hi
  simp [hi]
theorem b_1 : ∀ i, i < 32 → bt 1 i = decide (i = 0) := by decide +kernel
theorem b_low : ∀ i, i < 32 → ∀ j, j < 32 → bt (((1 : Int32) <<< (nI i &&& 31)) - 1) j = decide (j < i) := by decide +kernel
theorem b_nI (n i : Nat) : i < 32 → bt (nI n) i = n.testBit i := by
  intro hi
  show (BitVec.ofNat 32 n).getLsbD i = n.testBit i
  rw [BitVec.getLsbD_ofNat]
  simp [hi]
/-- LetterNet.bit -/
theorem p_bit (x : Int32) {i : Nat} (hi : i < 32) : f_X5_bit x (nI i) = if bt x i = true then 1 else 0 := by
  apply b_ext
  intro j hj
  unfold f_X5_bit
  rw [b_and, b_ushr i hi, b_1 j hj]
  by_cases h0 : j = 0
  · subst h0
    by_cases hb : bt x i = true
    · rw [if_pos hb]; simp [hb, b_1 0 (by omega)]
    · rw [if_neg hb]; simp [hb, b_0]
  · by_cases hb : bt x i = true
    · rw [if_pos hb, b_1 j hj]; simp [h0]
    · rw [if_neg hb, b_0]; simp [h0]
/-- LetterNet.withBit -/
theorem p_withBit (x : Int32) {i : Nat} (hi : i < 32) (v : Bool) {j : Nat} (hj : j < 32) : bt (f_X5_withBit x (nI i) (if v = true then 1 else 0)) j = if j = i then v else bt x j := by
  unfold f_X5_withBit
  rw [b_or, b_and, b_xor, b_shl i hi _ hj, b_shl i hi _ hj, b_m1 j hj]
  have h1 : ∀ k, k < 32 → bt (if v = true then (1 : Int32) else 0) k = (decide (k = 0) && v) := by
    intro k hk
    cases v
    · simp [b_0]
    · simp [b_1 k hk]
  rw [b_1 (j - i) (by omega), h1 (j - i) (by omega)]
  by_cases h : j = i
  · subst h
    simp
  · rw [if_neg h]
    by_cases h2 : i ≤ j
    · have h3 : ¬ (j - i = 0) := by omega
      simp [h2, h3]
    · simp [h2]
/-- LetterNet$Network.withoutPlace -/
theorem p_without (x : Int32) {i : Nat} (hi : i < 31) {j : Nat} (hj : j < 32) : bt (f_X1_withoutPlace x (nI i)) j = if j < i then bt x j else bt x (j + 1) := by
  unfold f_X1_withoutPlace
  rw [b_or, b_and, b_and, b_xor, b_low i (by omega) j hj, b_m1 j hj]
  have h1 : bt (UInt32.toInt32 (Int32.toUInt32 x >>> (Int32.toUInt32 1 &&& Int32.toUInt32 31))) j = bt x (1 + j) := b_ushr 1 (by omega) x j
  rw [h1, Nat.add_comm 1 j]
  by_cases h : j < i <;> simp [h]
/-! counting bits -/
/-- how many of the first k hold -/
def q_cnt (f : Nat → Bool) : Nat → Nat
  | 0 => 0
  | k + 1 => q_cnt f k + (if f k = true then 1 else 0)
theorem q_cnt_congr {f g : Nat → Bool} : ∀ (k : Nat), (∀ i, i < k → f i = g i) → q_cnt f k = q_cnt g k
  | 0, _ => rfl
  | k + 1, h => by rw [q_cnt, q_cnt, q_cnt_congr k (fun i hi => h i (by omega)), h k (by omega)]
theorem q_cnt_add (f : Nat → Bool) (a : Nat) : ∀ (b : Nat), q_cnt f (a + b) = q_cnt f a + q_cnt (fun i => f (a + i)) b
  | 0 => rfl
  | b + 1 => by rw [← Nat.add_assoc, q_cnt, q_cnt_add f a b, q_cnt]; omega
theorem q_cnt_le (f : Nat → Bool) : ∀ (k : Nat), q_cnt f k ≤ k
  | 0 => Nat.le_refl 0
  | k + 1 => by
    have := q_cnt_le f k
    rw [q_cnt]
    by_cases h : f k = true
    · rw [if_pos h]; omega
    · rw [if_neg h]; omega
theorem q_land {a b u v : Nat} (ha : a < 256) (hu : u < 256) : (a + 256 * b) &&& (u + 256 * v) = (a &&& u) + 256 * (b &&& v) := by
  have hl : a &&& u < 256 := Nat.and_lt_two_pow _ (n := 8) hu
  apply Nat.eq_of_testBit_eq
  intro i
  rw [Nat.testBit_and, Nat.add_comm a, Nat.add_comm u, Nat.add_comm (a &&& u)]
  rw [Nat.testBit_two_pow_mul_add b (i := 8) ha, Nat.testBit_two_pow_mul_add v (i := 8) hu, Nat.testBit_two_pow_mul_add (b &&& v) (i := 8) hl]
  by_cases h : i < 8 <;> simp [h, Nat.testBit_and]
theorem q_land3 {a b c u v w : Nat} (ha : a < 256) (hb : b < 256) (hu : u < 256) (hv : v < 256) : (a + 256 * b + 65536 * c) &&& (u + 256 * v + 65536 * w) = (a &&& u) + 256 * (b &&& v) + 65536 * (c &&& w) := by
  have e1 : a + 256 * b + 65536 * c = a + 256 * (b + 256 * c) := by omega
  have e2 : u + 256 * v + 65536 * w = u + 256 * (v + 256 * w) := by omega
  rw [e1, e2, q_land ha hu, q_land hb hv]
  omega
def g1 (a : Nat) : Nat := a - ((a / 2) &&& 85)
def g2 (a : Nat) : Nat := (g1 a &&& 51) + ((g1 a / 4) &&& 51)
def g3 (a : Nat) : Nat := (g2 a + g2 a / 16) &&& 15
set_option maxRecDepth 100000 in
theorem g_t1 : ∀ a, a < 256 → ∀ e, e < 2 → (a / 2 + 128 * e) &&& 85 = (a / 2) &&& 85 := by decide +kernel
set_option maxRecDepth 100000 in
theorem g_t2 : ∀ a, a < 256 → ∀ e, e < 4 → (a / 4 + 64 * e) &&& 51 = (a / 4) &&& 51 := by decide +kernel
set_option maxRecDepth 100000 in
theorem g_t3 : ∀ a, a < 256 → ((a / 2) &&& 85 ≤ a ∧ g2 a % 16 ≤ 4 ∧ g2 a / 16 ≤ 4 ∧ g3 a = q_cnt (fun i => a.testBit i) 8) := by decide +kernel
set_option maxRecDepth 100000 in
theorem g_t4 : ∀ a, a < 256 → ∀ e, e < 5 → (g2 a + g2 a / 16 + 16 * e) &&& 15 = g3 a := by decide +kernel
theorem g_c : ∀ c, c < 4 → ((c / 2) &&& 21845 = (c / 2) &&& 85 ∧ g1 c &&& 13107 = g1 c &&& 51 ∧ (g1 c / 4) &&& 13107 = (g1 c / 4) &&& 51 ∧ g2 c / 16 = 0 ∧ (g2 c + g2 c / 16) &&& 3855 = g3 c ∧ g3 c = q_cnt (fun i => c.testBit i) 2) := by decide +kernel
theorem g_fin {p q r : Nat} (hp : p ≤ 8) (hq : q ≤ 8) (hr : r ≤ 2) : (((p + 256 * q + 65536 * r) + (p + 256 * q + 65536 * r) / 256) + ((p + 256 * q + 65536 * r) + (p + 256 * q + 65536 * r) / 256) / 65536) &&& 63 = p + q + r := by
  rw [show (63 : Nat) = 2 ^ 6 - 1 from rfl, Nat.and_two_pow_sub_one_eq_mod]
  have e1 : (p + 256 * q + 65536 * r) / 256 = q + 256 * r := by omega
  have e2 : ((p + 256 * q + 65536 * r) + (q + 256 * r)) / 65536 = r := by omega
  rw [e1, e2]
  omega
theorem q_bytes {a b c : Nat} (ha : a < 256) (hb : b < 256) (hc : c < 4) : q_cnt (fun i => (a + 256 * b + 65536 * c).testBit i) 18 = g3 a + g3 b + g3 c := by
  have e : a + 256 * b + 65536 * c = 2 ^ 8 * (b + 256 * c) + a := by omega
  have e2 : b + 256 * c = 2 ^ 8 * c + b := by omega
  rw [show 18 = 8 + (8 + 2) from rfl, q_cnt_add, q_cnt_add]
  have h1 : q_cnt (fun i => (a + 256 * b + 65536 * c).testBit i) 8 = g3 a := by
    rw [(g_t3 a ha).2.2.2]
    exact q_cnt_congr 8 (fun i hi => by rw [e, Nat.testBit_two_pow_mul_add _ (i := 8) ha, if_pos hi])
  have h2 : q_cnt (fun i => (a + 256 * b + 65536 * c).testBit (8 + i)) 8 = g3 b := by
    rw [(g_t3 b hb).2.2.2]
    exact q_cnt_congr 8 (fun i hi => by rw [e, Nat.testBit_two_pow_mul_add _ (i := 8) ha, if_neg (by omega), e2, Nat.testBit_two_pow_mul_add _ (i := 8) hb, if_pos (by omega), Nat.add_sub_cancel_left])
  have h3 : q_cnt (fun i => (a + 256 * b + 65536 * c).testBit (8 + (8 + i))) 2 = g3 c := by
    rw [(g_c c hc).2.2.2.2.2]
    exact q_cnt_congr 2 (fun i hi => by rw [e, Nat.testBit_two_pow_mul_add _ (i := 8) ha, if_neg (by omega), e2, Nat.testBit_two_pow_mul_add _ (i := 8) hb, if_neg (by omega), show 8 + (8 + i) - 8 - 8 = i by omega])
  rw [h1, h2, h3]
  omega
theorem n_ushr {n : Nat} (hn : n < 4294967296) (k : Nat) (hk : k < 32) : UInt32.toInt32 (Int32.toUInt32 (nI n) >>> (Int32.toUInt32 (nI k) &&& Int32.toUInt32 31)) = nI (n / 2 ^ k) := pk_ushrN (by omega) (nI k) k (s_u k hk)
/-- Integer.bitCount of a number of at most 18 bits -/
theorem p_bitCount {x : Nat} (hx : x < 262144) : f_J6_bitCount_0f7a4 (nI x) = nI (q_cnt (fun i => x.testBit i) 18) := by
  obtain ⟨a, b, c, ha, hb, hc, rfl⟩ : ∃ a b c, a < 256 ∧ b < 256 ∧ c < 4 ∧ x = a + 256 * b + 65536 * c := ⟨x % 256, x / 256 % 256, x / 65536, by omega, by omega, by omega, by omega⟩
  obtain ⟨a1, a2, a3, a4⟩ := g_t3 a ha
  obtain ⟨b1, b2, b3, b4⟩ := g_t3 b hb
  obtain ⟨c1, c2, c3, c4⟩ := g_t3 c (by omega)
  obtain ⟨d1, d2, d3, d4, d5, d6⟩ := g_c c hc
  have m1 : (1431655765 : Nat) = 85 + 256 * 85 + 65536 * 21845 := rfl
  have m2 : (858993459 : Nat) = 51 + 256 * 51 + 65536 * 13107 := rfl
  have m3 : (252645135 : Nat) = 15 + 256 * 15 + 65536 * 3855 := rfl
  rw [q_bytes ha hb hc]
  have ga : g1 a < 256 := by unfold g1; omega
  have gb : g1 b < 256 := by unfold g1; omega
  have gc : g1 c < 4 := by unfold g1; omega
  -- stage 1
  have s1 : (a + 256 * b + 65536 * c) - (((a + 256 * b + 65536 * c) / 2) &&& 1431655765) = g1 a + 256 * g1 b + 65536 * g1 c := by
    have e : (a + 256 * b + 65536 * c) / 2 = (a / 2 + 128 * (b % 2)) + 256 * (b / 2 + 128 * (c % 2)) + 65536 * (c / 2) := by omega
    rw [e, m1, q_land3 (by omega) (by omega) (by omega) (by omega), g_t1 a ha _ (by omega), g_t1 b hb _ (by omega), d1]
    unfold g1
    omega
  have s1l : ((a + 256 * b + 65536 * c) / 2) &&& 1431655765 ≤ a + 256 * b + 65536 * c := Nat.le_trans Nat.and_le_left (Nat.div_le_self _ _)
  generalize hA : g1 a + 256 * g1 b + 65536 * g1 c = A at s1
  -- stage 2
  have s2 : (A &&& 858993459) + ((A / 4) &&& 858993459) = g2 a + 256 * g2 b + 65536 * g2 c := by
    have e : A / 4 = (g1 a / 4 + 64 * (g1 b % 4)) + 256 * (g1 b / 4 + 64 * (g1 c % 4)) + 65536 * (g1 c / 4) := by omega
    rw [e, ← hA, m2, q_land3 ga gb (by omega) (by omega), q_land3 (by omega) (by omega) (by omega) (by omega), g_t2 _ ga _ (by omega), g_t2 _ gb _ (by omega), d2, d3]
    unfold g2
    omega
  generalize hB : g2 a + 256 * g2 b + 65536 * g2 c = B at s2
  -- stage 3
  have s3 : (B + B / 16) &&& 252645135 = g3 a + 256 * g3 b + 65536 * g3 c := by
    have e : B + B / 16 = (g2 a + g2 a / 16 + 16 * (g2 b % 16)) + 256 * (g2 b + g2 b / 16 + 16 * (g2 c % 16)) + 65536 * (g2 c + g2 c / 16) := by omega
    rw [e, m3, q_land3 (by omega) (by omega) (by omega) (by omega), g_t4 a ha _ (by omega), g_t4 b hb _ (by omega), d5]
  have pa : g3 a ≤ 8 := by rw [a4]; exact q_cnt_le _ 8
  have pb : g3 b ≤ 8 := by rw [b4]; exact q_cnt_le _ 8
  have pc : g3 c ≤ 2 := by rw [d6]; exact q_cnt_le _ 2
  generalize hC : g3 a + 256 * g3 b + 65536 * g3 c = Cc at s3
  have s5 : ((Cc + Cc / 256) + (Cc + Cc / 256) / 65536) &&& 63 = g3 a + g3 b + g3 c := by rw [← hC]; exact g_fin pa pb pc
  have lA : A < 262144 := by omega
  have lB : B < 16777216 := by omega
  have lC : Cc < 262144 := by omega
  have k1 : nI (a + 256 * b + 65536 * c) - (UInt32.toInt32 (Int32.toUInt32 (nI (a + 256 * b + 65536 * c)) >>> (Int32.toUInt32 (1 : Int32) &&& Int32.toUInt32 31)) &&& (1431655765 : Int32)) = nI A := by
    rw [show (1 : Int32) = nI 1 from rfl, n_ushr (by omega) 1 (by omega), show (1431655765 : Int32) = nI 1431655765 from rfl, nx_and, pk_sub (by simpa using s1l), ← s1]
  have k2 : (nI A &&& (858993459 : Int32)) + (UInt32.toInt32 (Int32.toUInt32 (nI A) >>> (Int32.toUInt32 (2 : Int32) &&& Int32.toUInt32 31)) &&& (858993459 : Int32)) = nI B := by
    rw [show (2 : Int32) = nI 2 from rfl, n_ushr (by omega) 2 (by omega), show (858993459 : Int32) = nI 858993459 from rfl, nx_and, nx_and, nI_add, ← s2]
  have k3 : (nI B + UInt32.toInt32 (Int32.toUInt32 (nI B) >>> (Int32.toUInt32 (4 : Int32) &&& Int32.toUInt32 31))) &&& (252645135 : Int32) = nI Cc := by
    rw [show (4 : Int32) = nI 4 from rfl, n_ushr (by omega) 4 (by omega), show (252645135 : Int32) = nI 252645135 from rfl, nI_add, nx_and, ← s3]
  have k4 : nI Cc + UInt32.toInt32 (Int32.toUInt32 (nI Cc) >>> (Int32.toUInt32 (8 : Int32) &&& Int32.toUInt32 31)) = nI (Cc + Cc / 256) := by
    rw [show (8 : Int32) = nI 8 from rfl, n_ushr (by omega) 8 (by omega), nI_add]
  have k5 : nI (Cc + Cc / 256) + UInt32.toInt32 (Int32.toUInt32 (nI (Cc + Cc / 256)) >>> (Int32.toUInt32 (16 : Int32) &&& Int32.toUInt32 31)) = nI ((Cc + Cc / 256) + (Cc + Cc / 256) / 65536) := by
    rw [show (16 : Int32) = nI 16 from rfl, n_ushr (by omega) 16 (by omega), nI_add]
  unfold f_J6_bitCount_0f7a4
  rw [k1, k2, k3, k4, k5, show (63 : Int32) = nI 63 from rfl, nx_and, s5]
