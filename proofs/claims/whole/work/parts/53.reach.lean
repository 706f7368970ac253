/-! which nodes are reached: sets of nodes -/
def fin1 (d : Nat → Nat) : Nat → Bool := fun x => decide (d x < 1000000)
def rs (g : AN) (use : Nat → Bool) (i : Nat) (S : Nat → Bool) : Nat → Bool := if use i = true ∧ S (gLo g i) ≠ S (gHi g i) then (fun x => S x || (decide (x = gLo g i) || decide (x = gHi g i))) else S
def pssr (g : AN) (use : Nat → Bool) : Nat → Nat → (Nat → Bool) → Nat → Bool
  | _, 0, S => S
  | i, m + 1, S => pssr g use (i + 1) m (rs g use i S)
def itss (g : AN) (use : Nat → Bool) (S : Nat → Bool) : Nat → Nat → Bool
  | 0 => S
  | p + 1 => pssr g use 0 (gK g) (itss g use S p)
theorem fin_rx {g : AN} {use : Nat → Bool} {i B : Nat} {d : Nat → Nat} (hln : gLn g i ≤ 9) (hB : B ≤ 100000) (h : ∀ x, d x = 1000000 ∨ d x ≤ B) : fin1 (rx g use i d) = rs g use i (fin1 d) := by
  have hl := h (gLo g i)
  have hh := h (gHi g i)
  funext x
  unfold rx rs
  by_cases hu : use i = true
  · rw [if_pos hu]
    by_cases h1 : d (gHi g i) + (16 * gLn g i + 1) < d (gLo g i)
    · rw [if_pos h1]
      by_cases hf : d (gLo g i) = 1000000
      · rw [if_pos ⟨hu, by unfold fin1; rw [decide_eq_false (show ¬ d (gLo g i) < 1000000 by omega), decide_eq_true (show d (gHi g i) < 1000000 by omega)]; decide⟩]
        show decide (va_up d (gLo g i) (d (gHi g i) + (16 * gLn g i + 1)) x < 1000000) = (decide (d x < 1000000) || (decide (x = gLo g i) || decide (x = gHi g i)))
        rw [up_at]
        by_cases e : x = gLo g i
        · rw [if_pos e, decide_eq_true (show d (gHi g i) + (16 * gLn g i + 1) < 1000000 by omega)]; simp [e]
        · rw [if_neg e]
          by_cases e2 : x = gHi g i
          · rw [e2, decide_eq_true (show d (gHi g i) < 1000000 by omega)]; simp
          · simp [e, e2]
      · rw [if_neg (fun q => q.2 (by unfold fin1; rw [decide_eq_true (show d (gLo g i) < 1000000 by omega), decide_eq_true (show d (gHi g i) < 1000000 by omega)]))]
        show decide (va_up d (gLo g i) (d (gHi g i) + (16 * gLn g i + 1)) x < 1000000) = decide (d x < 1000000)
        rw [up_at]
        by_cases e : x = gLo g i
        · rw [if_pos e, e, decide_eq_true (show d (gHi g i) + (16 * gLn g i + 1) < 1000000 by omega), decide_eq_true (show d (gLo g i) < 1000000 by omega)]
        · rw [if_neg e]
    · rw [if_neg h1]
      by_cases h2 : d (gLo g i) + (16 * gLn g i + 1) < d (gHi g i)
      · rw [if_pos h2]
        by_cases hf : d (gHi g i) = 1000000
        · rw [if_pos ⟨hu, by unfold fin1; rw [decide_eq_false (show ¬ d (gHi g i) < 1000000 by omega), decide_eq_true (show d (gLo g i) < 1000000 by omega)]; decide⟩]
          show decide (va_up d (gHi g i) (d (gLo g i) + (16 * gLn g i + 1)) x < 1000000) = (decide (d x < 1000000) || (decide (x = gLo g i) || decide (x = gHi g i)))
          rw [up_at]
          by_cases e : x = gHi g i
          · rw [if_pos e, decide_eq_true (show d (gLo g i) + (16 * gLn g i + 1) < 1000000 by omega)]; simp [e]
          · rw [if_neg e]
            by_cases e2 : x = gLo g i
            · rw [e2, decide_eq_true (show d (gLo g i) < 1000000 by omega)]; simp
            · simp [e, e2]
        · rw [if_neg (fun q => q.2 (by unfold fin1; rw [decide_eq_true (show d (gLo g i) < 1000000 by omega), decide_eq_true (show d (gHi g i) < 1000000 by omega)]))]
          show decide (va_up d (gHi g i) (d (gLo g i) + (16 * gLn g i + 1)) x < 1000000) = decide (d x < 1000000)
          rw [up_at]
          by_cases e : x = gHi g i
          · rw [if_pos e, e, decide_eq_true (show d (gLo g i) + (16 * gLn g i + 1) < 1000000 by omega), decide_eq_true (show d (gHi g i) < 1000000 by omega)]
          · rw [if_neg e]
      · rw [if_neg h2, if_neg]
        rintro ⟨-, q⟩
        apply q
        unfold fin1
        by_cases e : d (gLo g i) < 1000000
        · rw [decide_eq_true e, decide_eq_true (show d (gHi g i) < 1000000 by omega)]
        · rw [decide_eq_false e, decide_eq_false (show ¬ d (gHi g i) < 1000000 by omega)]
  · rw [if_neg hu, if_neg (fun q => hu q.1)]
theorem fin_psr {g : AN} {use : Nat → Bool} (hln : ∀ i, i < gK g → gLn g i ≤ 9) : ∀ (m i B : Nat) (d : Nat → Nat), i + m = gK g → B + 145 * m ≤ 100000 → (∀ x, d x = 1000000 ∨ d x ≤ B) → fin1 (psr g use i m d) = pssr g use i m (fin1 d)
  | 0, i, B, d, _, _, _ => rfl
  | m + 1, i, B, d, h1, h2, h => by
    have h9 := hln i (by omega)
    have e := fin_rx (use := use) h9 (show B ≤ 100000 by omega) h
    have b := (rx_cv (use := use) h9 (show B ≤ 100000 by omega) h).2
    rw [psr, pssr, fin_psr hln m (i + 1) (B + 145) _ (by omega) (by omega) b, e]
theorem psr_its (g : AN) (use : Nat → Bool) (d : Nat → Nat) (p : Nat) : its g use d (p + 1) = psr g use 0 (gK g) (its g use d p) := by
  have := psr_ps g use (its g use d p) (gK g) 0
  rw [Nat.zero_add] at this
  exact this.symm
theorem fin_its {g : AN} {use : Nat → Bool} (hg : gLinks g) (t : Nat) : ∀ p, p ≤ 9 → fin1 (its g use (st0 1000000 t) p) = itss g use (fun x => decide (x = t)) p
  | 0, _ => by
    funext x
    show decide (st0 1000000 t x < 1000000) = decide (x = t)
    unfold st0
    by_cases e : x = t
    · rw [if_pos e]; simp [e]
    · rw [if_neg e]; simp [e]
  | p + 1, hp => by
    have hb := (its_cv (use := use) (fun i hi => (hg.2.2 i hi).2.2) hg.2.1 t p (by omega)).2
    have hk := hg.2.1
    rw [psr_its, fin_psr (fun i hi => (hg.2.2 i hi).2.2) (gK g) 0 (2610 * p) _ (by omega) (by omega) hb, fin_its hg t p (by omega)]
    rfl
theorem itss_fix {g : AN} {use : Nat → Bool} {S : Nat → Bool} (h : pssr g use 0 (gK g) S = S) : ∀ q, itss g use S q = S
  | 0 => rfl
  | q + 1 => by rw [itss, itss_fix h q, h]
theorem itss_add (g : AN) (use : Nat → Bool) (S : Nat → Bool) (p : Nat) : ∀ q, itss g use S (p + q) = itss g use (itss g use S p) q
  | 0 => rfl
  | q + 1 => by rw [← Nat.add_assoc, itss, itss_add g use S p q, itss]
theorem fin_DD {g : AN} {use : Nat → Bool} (hg : gLinks g) {t : Nat} (ht : t < gN g) : itss g use (fun x => decide (x = t)) (gN g) = fin1 (DD g use t) := by
  obtain ⟨F, -, -, -, -, f5, -⟩ := bf_main (g := g) (use := use) (c := 1000000) hg.1 ht (by omega) (fun i hi => ⟨(hg.2.2 i hi).1, (hg.2.2 i hi).2.1⟩)
  have h9 := hg.1
  rw [← fin_its hg t (gN g) h9, f5 (gN g) (by omega)]
  unfold DD
  rw [f5 9 (by omega)]
theorem b_one {n x : Nat} (hn : n < 32) (hx : x < 32) : bt ((1 : Int32) <<< (nI n &&& 31)) x = decide (x = n) := by
  rw [b_shl n hn 1 hx, b_1 (x - n) (by omega)]
  by_cases e : x = n
  · subst e; simp
  · by_cases h : n ≤ x
    · have : ¬ (x - n = 0) := by omega
      simp [e, h, this]
    · simp [e, h]
theorem b01_inj (a b : Bool) : b01 a = b01 b ↔ a = b := by
  cases a <;> cases b <;> simp [b01]
theorem C_reach_i {g : AN} {U nn : Int32} {use : Nat → Bool} {low high len : Nat → Int32} (hg : gLinks g) (hr : CL low high len g) (hU : ∀ i, i < gK g → bt U i = use i) (K : Int32 → Int32 → Int32 → Int32 → Int32 → Int32 → (Nat → Int32) → (Nat → Int32) → Option (Int32)) (x5 : Int32) : ∀ (m i fuel : Nat) (fl : Bool) (R : Int32) (S : Nat → Bool), i + m = gK g → m < fuel → (∀ x, x < 32 → bt R x = S x) → ∃ (fl' : Bool) (R' : Int32), f_X1_reachedFrom_b30 K fuel U R (b01 fl) x5 (nI i) nn (nI (gK g)) low high = K U R' (b01 fl') (x5 + 1) nn (nI (gK g)) low high ∧ (∀ x, x < 32 → bt R' x = pssr g use i m S x) ∧ (fl' = false → pssr g use i m S = S ∧ fl = false)
  | 0, i, fuel, fl, R, S, h1, h2, h => by
    obtain ⟨n, rfl⟩ : ∃ n, fuel = n + 1 := ⟨fuel - 1, by omega⟩
    have hk := hg.2.1
    rw [f_X1_reachedFrom_b30, t_le (by omega) (by omega), if_pos (by omega)]
    exact ⟨fl, R, rfl, h, fun q => ⟨rfl, q⟩⟩
  | m + 1, i, fuel, fl, R, S, h1, h2, h => by
    obtain ⟨n, rfl⟩ : ∃ n, fuel = n + 1 := ⟨fuel - 1, by omega⟩
    have hk := hg.2.1
    have h9 := hg.1
    have hi : i < gK g := by omega
    obtain ⟨s1, s2, s3⟩ := hg.2.2 i hi
    obtain ⟨e1, e2, e3⟩ := hr i hi
    rw [f_X1_reachedFrom_b30, t_le (by omega) (by omega), if_neg (by omega), p_bit' U (by omega), b01_eq1, hU i hi, t_inb (by omega), if_pos (show i < 18 by omega), n_cl (by omega), e1, e2, p_bit' R (by omega), p_bit' R (by omega), h _ (by omega), h _ (by omega), nI_1, t_iff (b01_inj _ _)]
    have same : rs g use i S = S → ∃ (fl' : Bool) (R' : Int32), f_X1_reachedFrom_b30 K n U R (b01 fl) x5 (nI (i + 1)) nn (nI (gK g)) low high = K U R' (b01 fl') (x5 + 1) nn (nI (gK g)) low high ∧ (∀ x, x < 32 → bt R' x = pssr g use i (m + 1) S x) ∧ (fl' = false → pssr g use i (m + 1) S = S ∧ fl = false) := by
      intro e
      rw [pssr, e]
      exact C_reach_i hg hr hU K x5 m (i + 1) n fl R S (by omega) (by omega) h
    by_cases hu : use i = true
    · rw [if_pos hu]
      by_cases c : S (gLo g i) = S (gHi g i)
      · rw [if_pos c]
        exact same (by unfold rs; rw [if_neg (fun q => q.2 c)])
      · rw [if_neg c]
        have e : rs g use i S = fun x => S x || (decide (x = gLo g i) || decide (x = gHi g i)) := by unfold rs; rw [if_pos ⟨hu, c⟩]
        obtain ⟨fl', R', k1, k2, k3⟩ := C_reach_i hg hr hU K x5 m (i + 1) n true (R ||| (((1 : Int32) <<< (nI (gLo g i) &&& 31)) ||| ((1 : Int32) <<< (nI (gHi g i) &&& 31)))) (rs g use i S) (by omega) (by omega) (fun x hx => by
          rw [b_or, b_or, b_one (by omega) hx, b_one (by omega) hx, h x hx, e])
        refine ⟨fl', R', k1, k2, fun q => ?_⟩
        have := (k3 q).2
        cases this
    · rw [if_neg hu]
      exact same (by unfold rs; rw [if_neg (fun q => hu q.1)])
theorem C_reach_o {g : AN} {U : Int32} {use : Nat → Bool} {low high len : Nat → Int32} {S0 : Nat → Bool} (hg : gLinks g) (hr : CL low high len g) (hU : ∀ i, i < gK g → bt U i = use i) : ∀ (q p fuel : Nat) (fl : Bool) (R : Int32), p + q = gN g → q < fuel → (∀ x, x < 32 → bt R x = itss g use S0 p x) → (fl = false → pssr g use 0 (gK g) (itss g use S0 p) = itss g use S0 p) → ∃ R' : Int32, f_X1_reachedFrom_b10 fuel U R (b01 fl) (nI p) (nI (gN g)) (nI (gK g)) low high = some R' ∧ ∀ x, x < 32 → bt R' x = itss g use S0 (gN g) x
  | 0, p, fuel, fl, R, h1, h2, h, hf => by
    obtain ⟨n, rfl⟩ : ∃ n, fuel = n + 1 := ⟨fuel - 1, by omega⟩
    have h9 := hg.1
    have hp : p = gN g := by omega
    rw [f_X1_reachedFrom_b10, t_le (by omega) (by omega), if_pos (by omega)]
    exact ⟨R, rfl, by rw [← hp]; exact h⟩
  | q + 1, p, fuel, fl, R, h1, h2, h, hf => by
    obtain ⟨n, rfl⟩ : ∃ n, fuel = n + 1 := ⟨fuel - 1, by omega⟩
    have h9 := hg.1
    have hk := hg.2.1
    rw [f_X1_reachedFrom_b10, t_le (by omega) (by omega), if_neg (by omega), b01_eq0]
    cases fl with
    | false =>
      rw [if_neg (by decide)]
      refine ⟨R, rfl, fun x hx => ?_⟩
      rw [h x hx, show gN g = p + (q + 1) by omega, itss_add, itss_fix (hf rfl)]
    | true =>
      rw [if_pos rfl]
      obtain ⟨fl', R', k1, k2, k3⟩ := C_reach_i (nn := nI (gN g)) hg hr hU (f_X1_reachedFrom_b10 n) (nI p) (gK g) 0 1000 false R (itss g use S0 p) (by omega) (by omega) h
      rw [show f_X1_reachedFrom_b30 (f_X1_reachedFrom_b10 n) 1000 U R 0 (nI p) 0 (nI (gN g)) (nI (gK g)) low high = _ from k1, nI_1]
      refine C_reach_o hg hr hU q (p + 1) n fl' R' (by omega) (by omega) k2 (fun e => ?_)
      have := (k3 e).1
      rw [itss, this, this]
theorem C_reach {g : AN} {U : Int32} {use : Nat → Bool} {low high len : Nat → Int32} {u : Nat} (hg : gLinks g) (hr : CL low high len g) (hU : ∀ i, i < gK g → bt U i = use i) (hu : u < gN g) : ∃ R : Int32, f_X1_reachedFrom (nI u) U (nI (gN g)) (nI (gK g)) low high = some R ∧ ∀ x, x < 32 → bt R x = decide (DD g use u x < 1000000) := by
  have h9 := hg.1
  obtain ⟨R, k1, k2⟩ := C_reach_o (S0 := fun x => decide (x = u)) hg hr hU (gN g) 0 1000 true ((1 : Int32) <<< (nI u &&& 31)) (by omega) (by omega) (fun x hx => b_one (by omega) hx) (fun h => by cases h)
  refine ⟨R, k1, fun x hx => ?_⟩
  rw [k2 x hx, fin_DD hg hu]
  rfl
/-! reaching is an equivalence -/
theorem dd_min {g : AN} (hg : gLinks g) {use : Nat → Bool} {t : Nat} (ht : t < gN g) {S : Nat → Prop} (h0 : S t) (hS : ∀ i, i < gK g → use i = true → (S (gLo g i) ↔ S (gHi g i))) : ∀ v x, DD g use t x = v → DD g use t x < 1000000 → S x := by
  intro v
  induction v using Nat.strongRecOn with
  | _ v ih =>
    intro x hv hlt
    by_cases e : x = t
    · rw [e]; exact h0
    · obtain ⟨i, hi, hu, h⟩ := (dd_spec hg use ht).2.1.2 x e hlt
      rcases h with ⟨h1, h2⟩ | ⟨h1, h2⟩
      · rw [h1]
        exact (hS i hi hu).mpr (ih _ (by omega) (gHi g i) rfl (by omega))
      · rw [h1]
        exact (hS i hi hu).mp (ih _ (by omega) (gLo g i) rfl (by omega))
theorem dd_closed {g : AN} (hg : gLinks g) {use : Nat → Bool} {t : Nat} (ht : t < gN g) (i : Nat) (hi : i < gK g) (hu : use i = true) : DD g use t (gLo g i) < 1000000 ↔ DD g use t (gHi g i) < 1000000 := by
  have hl := hg.2.2 i hi
  constructor
  · intro h
    exact dd_back hg ht hi hu (show oe g i (gHi g i) = some (gLo g i) by unfold oe; rw [if_neg (by omega), if_pos rfl]) h
  · intro h
    exact dd_back hg ht hi hu (show oe g i (gLo g i) = some (gHi g i) by unfold oe; rw [if_pos rfl]) h
theorem dd_trans {g : AN} (hg : gLinks g) {use : Nat → Bool} {t x y : Nat} (ht : t < gN g) (hx : x < gN g) (h1 : DD g use t x < 1000000) (h2 : DD g use x y < 1000000) : DD g use t y < 1000000 := dd_min hg hx (S := fun z => DD g use t z < 1000000) h1 (fun i hi hu => dd_closed hg ht i hi hu) _ y rfl h2
theorem dd_sym {g : AN} (hg : gLinks g) {use : Nat → Bool} {t x : Nat} (ht : t < gN g) (h : DD g use t x < 1000000) : DD g use x t < 1000000 := by
  have key := dd_min hg ht (S := fun z => z < gN g → DD g use z t < 1000000) (fun _ => by rw [dd_zero hg ht]; omega) (fun i hi hu => by
    have hl := hg.2.2 i hi
    have hlo : gLo g i < gN g := by omega
    have hhi : gHi g i < gN g := by omega
    have a : DD g use (gLo g i) (gHi g i) < 1000000 := (dd_closed hg hlo i hi hu).mp (by rw [dd_zero hg hlo]; omega)
    have b : DD g use (gHi g i) (gLo g i) < 1000000 := (dd_closed hg hhi i hi hu).mpr (by rw [dd_zero hg hhi]; omega)
    exact ⟨fun q _ => dd_trans hg hhi hlo b (q hlo), fun q _ => dd_trans hg hlo hhi a (q hhi)⟩) _ x rfl h
  exact key ((dd_spec hg use ht).2.2.2.1 x h)
/-! counting bits of masks -/
theorem p_self (A : Int32) : A = nI A.toBitVec.toNat := b_ext (fun i hi => by rw [b_nI _ i hi]; rfl)
theorem p_bc {A : Int32} {f : Nat → Bool} {k : Nat} (hk : k ≤ 18) (h : Msk A k f) : f_J6_bitCount_0f7a4 A = nI (q_cnt f k) := by
  have hlt : A.toBitVec.toNat < 262144 := by
    refine Nat.lt_pow_two_of_testBit (n := 18) _ (fun i hi => ?_)
    by_cases c : i < 32
    · have := h i c
      rw [show decide (i < k) = false from decide_eq_false (by omega)] at this
      exact this
    · exact BitVec.getLsbD_of_ge _ _ (by omega)
  have e := p_bitCount hlt
  rw [← p_self A] at e
  rw [e]
  congr 1
  have h1 : q_cnt (fun i => A.toBitVec.toNat.testBit i) 18 = q_cnt (fun i => decide (i < k) && f i) 18 := q_cnt_congr 18 (fun i hi => h i (by omega))
  rw [h1, show 18 = k + (18 - k) by omega, q_cnt_add]
  have h2 : q_cnt (fun i => decide (i < k) && f i) k = q_cnt f k := q_cnt_congr k (fun i hi => by simp [hi])
  have h3 : ∀ m, q_cnt (fun i => decide (k + i < k) && f (k + i)) m = 0 := by
    intro m
    induction m with
    | zero => rfl
    | succ m ih => rw [q_cnt, ih, if_neg (by rw [decide_eq_false (show ¬ k + m < k by omega)]; simp)]
  rw [h2, h3]
  omega
theorem Msk.at {x : Int32} {k : Nat} {f : Nat → Bool} (h : Msk x k f) (hk : k ≤ 18) {i : Nat} (hi : i < k) : bt x i = f i := by rw [h i (by omega), decide_eq_true hi, Bool.true_and]
theorem Msk.xor {x y : Int32} {k : Nat} {f e : Nat → Bool} (hx : Msk x k f) (hy : Msk y k e) : Msk (x ^^^ y) k (fun i => f i ^^ e i) := by
  intro i hi
  rw [b_xor, hx i hi, hy i hi]
  by_cases c : i < k <;> simp [c]
theorem Msk.congr {x : Int32} {k : Nat} {f e : Nat → Bool} (hx : Msk x k f) (h : ∀ i, i < k → f i = e i) : Msk x k e := by
  intro i hi
  rw [hx i hi]
  by_cases c : i < k
  · rw [h i c]
  · simp [c]
theorem M_count_b {g : AN} {w : Nat → Int32} {c : Nat} {f : Nat → Bool} (hk : gK g ≤ 18) (hw : RM w g) (hc : c < 5) (hf : ∀ i, i < gK g → w (3 + c + 5 * i) = b01 (f i)) : ∀ (m i fuel a : Nat), i + m = gK g → m < fuel → a = q_cnt f i → f_X6_count_b5 fuel (nI c) 1 (nI a) (nI i) w = some (nI (q_cnt f (gK g)))
  | 0, i, fuel, a, h1, h2, h => by
    obtain ⟨n, rfl⟩ : ∃ n, fuel = n + 1 := ⟨fuel - 1, by omega⟩
    have hi : i = gK g := by omega
    rw [f_X6_count_b5, c1, hw.2.1, t_le (by omega) (by omega), if_pos (by omega), h, hi]
  | m + 1, i, fuel, a, h1, h2, h => by
    obtain ⟨n, rfl⟩ : ∃ n, fuel = n + 1 := ⟨fuel - 1, by omega⟩
    have hi : i < gK g := by omega
    rw [f_X6_count_b5, c1, hw.2.1, t_le (by omega) (by omega), if_neg (by omega), M_of (by omega) hc, Option.bind_some, hf i hi, b01_eq1, nI_1, nI_1]
    by_cases e : f i = true
    · rw [if_pos e]; exact M_count_b hk hw hc hf m (i + 1) n (a + 1) (by omega) (by omega) (by rw [q_cnt, if_pos e, h])
    · rw [if_neg e, show nI a + 0 = nI a from by rw [l0, n_add]; rfl]; exact M_count_b hk hw hc hf m (i + 1) n a (by omega) (by omega) (by rw [q_cnt, if_neg e, h]; rfl)
theorem M_count {g : AN} {w : Nat → Int32} {c : Nat} {f : Nat → Bool} (hk : gK g ≤ 18) (hw : RM w g) (hc : c < 5) (hf : ∀ i, i < gK g → w (3 + c + 5 * i) = b01 (f i)) : f_X6_count (nI c) 1 w = some (nI (q_cnt f (gK g))) := M_count_b hk hw hc hf (gK g) 0 1000 0 (by omega) (by omega) rfl
theorem n_add0 (a : Nat) : nI a + (0 : Int32) = nI a := by rw [l0, n_add]; rfl
theorem M_wrong_b {g : AN} {w : Nat → Int32} (hk : gK g ≤ 18) (hw : RM w g) : ∀ (m i fuel a : Nat), i + m = gK g → m < fuel → a = q_cnt (fun i => gAl g i ^^ gMp g i) i → f_X6_wrong_b4 fuel (nI a) (nI i) w = some (nI (q_cnt (fun i => gAl g i ^^ gMp g i) (gK g)))
  | 0, i, fuel, a, h1, h2, h => by
    obtain ⟨n, rfl⟩ : ∃ n, fuel = n + 1 := ⟨fuel - 1, by omega⟩
    have hi : i = gK g := by omega
    rw [f_X6_wrong_b4, c1, hw.2.1, t_le (by omega) (by omega), if_pos (by omega), h, hi]
  | m + 1, i, fuel, a, h1, h2, h => by
    obtain ⟨n, rfl⟩ : ∃ n, fuel = n + 1 := ⟨fuel - 1, by omega⟩
    have hi : i < gK g := by omega
    obtain ⟨-, -, -, e4, e5⟩ := hw.2.2.2 i hi
    rw [f_X6_wrong_b4, c1, hw.2.1, t_le (by omega) (by omega), if_neg (by omega), M_of3 (by omega), Option.bind_some, M_of4 (by omega), Option.bind_some, e4, e5, t_iff (b01_inj _ _), nI_1, nI_1, n_add0]
    by_cases e : gAl g i = gMp g i
    · rw [if_pos e]; exact M_wrong_b hk hw m (i + 1) n a (by omega) (by omega) (by rw [q_cnt, if_neg (by rw [e]; simp), h]; rfl)
    · rw [if_neg e]; exact M_wrong_b hk hw m (i + 1) n (a + 1) (by omega) (by omega) (by rw [q_cnt, if_pos (by revert e; cases gAl g i <;> cases gMp g i <;> simp), h])
theorem M_wrong {g : AN} {w : Nat → Int32} (hk : gK g ≤ 18) (hw : RM w g) : f_X6_wrong w = some (nI (q_cnt (fun i => gAl g i ^^ gMp g i) (gK g))) := M_wrong_b hk hw (gK g) 0 1000 0 (by omega) (by omega) rfl
