/-! numbers: nI under comparisons, for simp with (disch := omega) -/
theorem n_le {a b : Nat} (ha : a < 2147483648) (hb : b < 2147483648) : (nI a ≤ nI b) = (a ≤ b) := propext (nI_leI (by omega) (by omega))
theorem n_lt {a b : Nat} (ha : a < 2147483648) (hb : b < 2147483648) : (nI a < nI b) = (a < b) := propext (nI_ltI (by omega) (by omega))
theorem n_eq {a b : Nat} (ha : a < 2147483648) (hb : b < 2147483648) : (nI a = nI b) = (a = b) := propext (nI_eq (by omega) (by omega))
theorem n_cl {a : Nat} (ha : a < 2147483648) : Int32.toNatClampNeg (nI a) = a := nI_clamp (by omega)
theorem n_inb {a n : Nat} (ha : a < 2147483648) : inb (nI a) n = decide (a < n) := by
  unfold inb
  rw [n_cl ha]
  have h : ¬ nI a < 0 := nI_pos (by omega)
  by_cases hn : a < n
  · simp [hn, h]
  · simp [hn, h]
theorem t_iff {α : Type} {p q : Prop} [Decidable p] [Decidable q] (h : p ↔ q) {x y : α} : (if p then x else y) = if q then x else y := by
  by_cases hp : p
  · rw [if_pos hp, if_pos (h.mp hp)]
  · rw [if_neg hp, if_neg (fun hq => hp (h.mpr hq))]
theorem t_le {α : Type} {a b : Nat} {x y : α} (ha : a < 2147483648) (hb : b < 2147483648) : (if nI a ≤ nI b then x else y) = if a ≤ b then x else y := t_iff (nI_leI (by omega) (by omega))
theorem t_lt {α : Type} {a b : Nat} {x y : α} (ha : a < 2147483648) (hb : b < 2147483648) : (if nI a < nI b then x else y) = if a < b then x else y := t_iff (nI_ltI (by omega) (by omega))
theorem t_eq {α : Type} {a b : Nat} {x y : α} (ha : a < 2147483648) (hb : b < 2147483648) : (if nI a = nI b then x else y) = if a = b then x else y := t_iff (nI_eq (by omega) (by omega))
theorem t_inb {α : Type} {a n : Nat} {x y : α} (ha : a < 2147483648) : (if inb (nI a) n = true then x else y) = if a < n then x else y := t_iff (by rw [n_inb ha, decide_eq_true_iff])
theorem n_add (a b : Nat) : nI a + nI b = nI (a + b) := nI_add a b
theorem n_mul (a b : Nat) : nI a * nI b = nI (a * b) := pk_mul a b
theorem n_sub {a b : Nat} (h : b ≤ a) : nI a - nI b = nI (a - b) := pk_sub h
theorem n_toInt {a : Nat} (h : a < 2147483648) : (nI a).toInt = (a : Int) := nI_toInt (by omega)
theorem i_eq (x y : Int32) : x = y ↔ x.toInt = y.toInt := Int32.toInt_inj.symm
theorem i_lt (x y : Int32) : x < y ↔ x.toInt < y.toInt := Int32.lt_iff_toInt_lt
theorem i_le (x y : Int32) : x ≤ y ↔ x.toInt ≤ y.toInt := Int32.le_iff_toInt_le
/-- a written number as nI -/
theorem l0 : (0 : Int32) = nI 0 := rfl
theorem l1 : (1 : Int32) = nI 1 := rfl
theorem l2 : (2 : Int32) = nI 2 := rfl
theorem l3 : (3 : Int32) = nI 3 := rfl
theorem l4 : (4 : Int32) = nI 4 := rfl
theorem l5 : (5 : Int32) = nI 5 := rfl
theorem l7 : (7 : Int32) = nI 7 := rfl
theorem l8 : (8 : Int32) = nI 8 := rfl
theorem l9 : (9 : Int32) = nI 9 := rfl
theorem l16 : (16 : Int32) = nI 16 := rfl
theorem l18 : (18 : Int32) = nI 18 := rfl
theorem l32 : (32 : Int32) = nI 32 := rfl
theorem l40 : (40 : Int32) = nI 40 := rfl
theorem l80 : (80 : Int32) = nI 80 := rfl
theorem l93 : (93 : Int32) = nI 93 := rfl
theorem l651 : (651 : Int32) = nI 651 := rfl
theorem lfar : (1000000 : Int32) = nI 1000000 := rfl
theorem lunr : (1048576 : Int32) = nI 1048576 := rfl
theorem c0 : Int32.toNatClampNeg (0 : Int32) = 0 := rfl
theorem c1 : Int32.toNatClampNeg (1 : Int32) = 1 := rfl
theorem c2 : Int32.toNatClampNeg (2 : Int32) = 2 := rfl
/-- negative written numbers are no nI -/
theorem n_ne {a : Nat} (ha : a < 2147483648) {z : Int32} (hz : z.toInt < 0) : ¬ nI a = z := fun h => by
  have h1 := n_toInt ha
  rw [h] at h1
  omega
theorem n_ne' {a : Nat} (ha : a < 2147483648) {z : Int32} (hz : z.toInt < 0) : ¬ z = nI a := fun h => n_ne ha hz h.symm
theorem p_split (p : Int32) : p < 0 ∨ ∃ j : Nat, j < 2147483648 ∧ p = nI j := by
  by_cases h : p < 0
  · exact Or.inl h
  · obtain ⟨j, hj, e⟩ := nI_of h
    exact Or.inr ⟨j, by omega, e⟩
theorem n_nneg {a : Nat} (ha : a < 2147483648) : ¬ nI a < 0 := nI_pos (by omega)
theorem n_min {a b : Nat} (ha : a < 2147483648) (hb : b < 2147483648) : (if nI b < nI a then nI b else nI a) = nI (min a b) := by
  rw [t_lt hb ha]
  by_cases h : b < a
  · rw [if_pos h, Nat.min_eq_right (by omega)]
  · rw [if_neg h, Nat.min_eq_left (by omega)]
theorem n_max {a b : Nat} (ha : a < 2147483648) (hb : b < 2147483648) : (if nI a < nI b then nI b else nI a) = nI (max a b) := by
  rw [t_lt ha hb]
  by_cases h : a < b
  · rw [if_pos h, Nat.max_eq_right (by omega)]
  · rw [if_neg h, Nat.max_eq_left (by omega)]
theorem upd_at (f : Nat → Int32) (k : Nat) (x : Int32) (j : Nat) : upd f k x j = if j = k then x else f j := rfl
/-- an index into a range: 1 or 0, and when -/
theorem n_isIn {j a b : Nat} (hj : j < 2147483648) (ha : a < 2147483648) (hb : b < 2147483648) : f_X6_isIn (nI j) (nI a) (nI b) = if a ≤ j ∧ j ≤ b then 1 else 0 := by
  unfold f_X6_isIn
  rw [t_lt hj ha, t_lt hb hj]
  by_cases h1 : j < a
  · rw [if_pos h1, if_neg (by omega)]
  · rw [if_neg h1]
    by_cases h2 : b < j
    · rw [if_pos h2, if_neg (by omega)]
    · rw [if_neg h2, if_pos (by omega)]
theorem n_isIn_neg {p : Int32} {a : Nat} {z : Int32} (hp : p < 0) (ha : a < 2147483648) : f_X6_isIn p (nI a) z = 0 := by
  unfold f_X6_isIn
  rw [if_pos]
  have h1 := n_toInt ha
  rw [i_lt] at hp ⊢
  have h0 : (0 : Int32).toInt = 0 := rfl
  omega
theorem isb_01 (c : Prop) [Decidable c] : isb (if c then (1 : Int32) else 0) = true := by
  by_cases h : c <;> simp [h] <;> decide
theorem isb_0 : isb (0 : Int32) = true := by decide
theorem isb_1 : isb (1 : Int32) = true := by decide
/-- the first of m places from i on where p holds -/
def fst1 (p : Nat → Bool) : Nat → Nat → Option Nat
  | _, 0 => none
  | i, m + 1 => if p i = true then some i else fst1 p (i + 1) m
theorem fst1_some {p : Nat → Bool} : ∀ {m i j : Nat}, fst1 p i m = some j → i ≤ j ∧ j < i + m ∧ p j = true
  | 0, i, j, h => by cases h
  | m + 1, i, j, h => by
    rw [fst1] at h
    by_cases hp : p i = true
    · rw [if_pos hp] at h; cases h; exact ⟨Nat.le_refl _, by omega, hp⟩
    · rw [if_neg hp] at h
      obtain ⟨h1, h2, h3⟩ := fst1_some h
      exact ⟨by omega, by omega, h3⟩
theorem fst1_none {p : Nat → Bool} : ∀ {m i : Nat}, fst1 p i m = none → ∀ j, i ≤ j → j < i + m → p j = false
  | 0, i, _, j, h1, h2 => by omega
  | m + 1, i, h, j, h1, h2 => by
    rw [fst1] at h
    by_cases hp : p i = true
    · rw [if_pos hp] at h; cases h
    · rw [if_neg hp] at h
      by_cases e : j = i
      · subst e; simpa using hp
      · exact fst1_none h j (by omega) (by omega)
theorem fst1_congr {p q : Nat → Bool} : ∀ (m i : Nat), (∀ j, i ≤ j → j < i + m → p j = q j) → fst1 p i m = fst1 q i m
  | 0, i, _ => rfl
  | m + 1, i, h => by rw [fst1, fst1, h i (Nat.le_refl _) (by omega), fst1_congr m (i + 1) (fun j h1 h2 => h j (by omega) (by omega))]
def enI (z : Int32) : Option Nat → Int32
  | some j => nI j
  | none => z
/-! networks, as numbers -/
abbrev AN : Type := Nat × Nat × Nat × (Nat → Nat) × (Nat → Nat) × (Nat → Nat) × (Nat → Bool) × (Nat → Bool)
abbrev gN (g : AN) : Nat := g.1
abbrev gK (g : AN) : Nat := g.2.1
abbrev gR (g : AN) : Nat := g.2.2.1
abbrev gLo (g : AN) : Nat → Nat := g.2.2.2.1
abbrev gHi (g : AN) : Nat → Nat := g.2.2.2.2.1
abbrev gLn (g : AN) : Nat → Nat := g.2.2.2.2.2.1
abbrev gAl (g : AN) : Nat → Bool := g.2.2.2.2.2.2.1
abbrev gMp (g : AN) : Nat → Bool := g.2.2.2.2.2.2.2
def gOK (g : AN) : Prop := 2 ≤ gN g ∧ gN g ≤ 9 ∧ gK g ≤ 18 ∧ gR g ≤ 18 ∧ ∀ i, i < gK g → gLo g i < gHi g i ∧ gHi g i < gN g ∧ 1 ≤ gLn g i ∧ gLn g i ≤ 9
def Msk (x : Int32) (k : Nat) (f : Nat → Bool) : Prop := ∀ i, i < 32 → bt x i = (decide (i < k) && f i)
/-- the class's network holds g -/
def RC (v : NV) (g : AN) : Prop := v.1 = nI (gN g) ∧ v.2.1 = nI (gK g) ∧ v.2.2.1 = nI (gR g) ∧ Msk v.2.2.2.1 (gK g) (gAl g) ∧ Msk v.2.2.2.2.1 (gK g) (gMp g) ∧ ∀ i, i < gK g → v.2.2.2.2.2.1 i = nI (gLo g i) ∧ v.2.2.2.2.2.2.1 i = nI (gHi g i) ∧ v.2.2.2.2.2.2.2 i = nI (gLn g i)
def b01 (b : Bool) : Int32 := if b = true then 1 else 0
/-- the reference's row of 93 holds g -/
def RM (w : Nat → Int32) (g : AN) : Prop := w 0 = nI (gN g) ∧ w 1 = nI (gK g) ∧ w 2 = nI (gR g) ∧ ∀ i, i < gK g → w (3 + 5 * i) = nI (gLo g i) ∧ w (4 + 5 * i) = nI (gHi g i) ∧ w (5 + 5 * i) = nI (gLn g i) ∧ w (6 + 5 * i) = b01 (gAl g i) ∧ w (7 + 5 * i) = b01 (gMp g i)
theorem b01_isb (b : Bool) : isb (b01 b) = true := by cases b <;> decide
/-- Model.of -/
theorem M_of {w : Nat → Int32} {i c : Nat} (hi : i < 18) (hc : c < 5) : f_X6_of (nI i) (nI c) w = some (w (3 + c + 5 * i)) := by
  unfold f_X6_of
  rw [l3, l5, n_mul, n_add, n_add, t_inb (by omega), n_cl (by omega), if_pos (by omega)]
  congr 2
  omega
theorem M_of0 {w : Nat → Int32} {i : Nat} (hi : i < 18) : f_X6_of (nI i) 0 w = some (w (3 + 5 * i)) := M_of (c := 0) hi (by omega)
theorem M_of1 {w : Nat → Int32} {i : Nat} (hi : i < 18) : f_X6_of (nI i) 1 w = some (w (4 + 5 * i)) := M_of (c := 1) hi (by omega)
theorem M_of2 {w : Nat → Int32} {i : Nat} (hi : i < 18) : f_X6_of (nI i) 2 w = some (w (5 + 5 * i)) := M_of (c := 2) hi (by omega)
theorem M_of3 {w : Nat → Int32} {i : Nat} (hi : i < 18) : f_X6_of (nI i) 3 w = some (w (6 + 5 * i)) := M_of (c := 3) hi (by omega)
theorem M_of4 {w : Nat → Int32} {i : Nat} (hi : i < 18) : f_X6_of (nI i) 4 w = some (w (7 + 5 * i)) := M_of (c := 4) hi (by omega)
/-- isNode, hasNode, isLink, hasLink: on a number, on a negative one -/
theorem C_hasNode {j n : Nat} (hj : j < 2147483648) (hn : n < 2147483648) : f_X1_hasNode (nI j) (nI n) = if j < n then 1 else 0 := by
  unfold f_X1_hasNode
  rw [if_neg (n_nneg hj), t_le hn hj]
  by_cases h : n ≤ j
  · rw [if_pos h, if_neg (by omega)]
  · rw [if_neg h, if_pos (by omega)]
theorem C_hasNode_neg {p z : Int32} (hp : p < 0) : f_X1_hasNode p z = 0 := by unfold f_X1_hasNode; rw [if_pos hp]
theorem C_hasLink {j n : Nat} (hj : j < 2147483648) (hn : n < 2147483648) : f_X1_hasLink (nI j) (nI n) = if j < n then 1 else 0 := by
  unfold f_X1_hasLink
  rw [if_neg (n_nneg hj), t_le hn hj]
  by_cases h : n ≤ j
  · rw [if_pos h, if_neg (by omega)]
  · rw [if_neg h, if_pos (by omega)]
theorem C_hasLink_neg {p z : Int32} (hp : p < 0) : f_X1_hasLink p z = 0 := by unfold f_X1_hasLink; rw [if_pos hp]
theorem M_in0 {j n : Nat} (hj : j < 2147483648) (hn : n < 2147483648) : f_X6_isIn (nI j) 0 (nI n - 1) = if j < n then 1 else 0 := by
  by_cases h0 : n = 0
  · subst h0
    unfold f_X6_isIn
    rw [if_neg (n_nneg hj), if_pos, if_neg (by omega)]
    have h1 := n_toInt hj
    rw [i_lt]
    have h2 : (nI 0 - 1 : Int32).toInt = -1 := by decide
    omega
  · rw [l0, l1, n_sub (by omega), n_isIn hj (by omega) (by omega)]
    by_cases h : j < n
    · rw [if_pos (by omega), if_pos h]; rfl
    · rw [if_neg (by omega), if_neg h]; rfl
theorem M_isNode {w : Nat → Int32} {j n : Nat} (hw : w 0 = nI n) (hj : j < 2147483648) (hn : n < 2147483648) : f_X6_isNode (nI j) w = some (if j < n then 1 else 0) := by
  unfold f_X6_isNode
  rw [c0, hw, M_in0 hj hn, if_pos (isb_01 _)]
theorem M_isNode_neg {w : Nat → Int32} {p : Int32} (hp : p < 0) : f_X6_isNode p w = some 0 := by
  unfold f_X6_isNode
  rw [show f_X6_isIn p 0 (w (Int32.toNatClampNeg 0) - 1) = 0 from n_isIn_neg (a := 0) hp (by omega), if_pos isb_0]
theorem M_isLink {w : Nat → Int32} {j n : Nat} (hw : w 1 = nI n) (hj : j < 2147483648) (hn : n < 2147483648) : f_X6_isLink (nI j) w = some (if j < n then 1 else 0) := by
  unfold f_X6_isLink
  rw [c1, hw, M_in0 hj hn, if_pos (isb_01 _)]
theorem M_isLink_neg {w : Nat → Int32} {p : Int32} (hp : p < 0) : f_X6_isLink p w = some 0 := by
  unfold f_X6_isLink
  rw [show f_X6_isIn p 0 (w (Int32.toNatClampNeg 1) - 1) = 0 from n_isIn_neg (a := 0) hp (by omega), if_pos isb_0]
/-! findLink, linkOf -/
abbrev gJoin (g : AN) (a b : Nat) : Nat → Bool := fun i => decide (gLo g i = min a b ∧ gHi g i = max a b)
def gFind (g : AN) (a b : Nat) : Option Nat := fst1 (gJoin g a b) 0 (gK g)
theorem C_find_b {g : AN} {low high : Nat → Int32} {a b : Nat} (hk : gK g ≤ 18) (ha : a < 100) (hb : b < 100) (hs : ∀ i, i < gK g → gLo g i < 100 ∧ gHi g i < 100) (hr : ∀ i, i < gK g → low i = nI (gLo g i) ∧ high i = nI (gHi g i)) : ∀ (m i fuel : Nat), i + m = gK g → m < fuel → f_X1_findLink_b2 fuel (nI a) (nI b) (nI i) (nI (gK g)) low high = some (enI (-1) (fst1 (gJoin g a b) i m))
  | 0, i, fuel, h1, h2 => by
    obtain ⟨n, rfl⟩ : ∃ n, fuel = n + 1 := ⟨fuel - 1, by omega⟩
    rw [f_X1_findLink_b2, t_le (by omega) (by omega), if_pos (by omega)]
    rfl
  | m + 1, i, fuel, h1, h2 => by
    obtain ⟨n, rfl⟩ : ∃ n, fuel = n + 1 := ⟨fuel - 1, by omega⟩
    have ih := C_find_b hk ha hb hs hr m (i + 1) n (by omega) (by omega)
    have hi : i < gK g := by omega
    obtain ⟨e1, e2⟩ := hr i hi
    obtain ⟨s1, s2⟩ := hs i hi
    rw [f_X1_findLink_b2, t_le (by omega) (by omega), if_neg (by omega), t_inb (by omega), if_pos (by omega), n_cl (by omega), e1, e2, n_min (by omega) (by omega), n_max (by omega) (by omega), t_eq (by omega) (by omega), t_eq (by omega) (by omega), nI_1, ih, fst1]
    by_cases c1 : gLo g i = min a b
    · rw [if_pos c1]
      by_cases c2 : gHi g i = max a b
      · rw [if_pos c2, if_pos (by simp [c1, c2])]
        rfl
      · rw [if_neg c2, if_neg (by simp [c2])]
    · rw [if_neg c1, if_neg (by simp [c1])]
theorem C_find {g : AN} {low high : Nat → Int32} {a b : Nat} (hk : gK g ≤ 18) (ha : a < 100) (hb : b < 100) (hs : ∀ i, i < gK g → gLo g i < 100 ∧ gHi g i < 100) (hr : ∀ i, i < gK g → low i = nI (gLo g i) ∧ high i = nI (gHi g i)) : f_X1_findLink (nI a) (nI b) (nI (gK g)) low high = some (enI (-1) (gFind g a b)) := C_find_b hk ha hb hs hr (gK g) 0 1000 (by omega) (by omega)
theorem M_find_b {g : AN} {w : Nat → Int32} {a b : Nat} (hg : gOK g) (ha : a < 100) (hb : b < 100) (hab : a ≠ b) (hr : RM w g) : ∀ (m i fuel : Nat), i + m = gK g → m < fuel → f_X6_linkOf_b2 fuel (nI a) (nI b) (nI i) w = some (enI (-9) (fst1 (gJoin g a b) i m))
  | 0, i, fuel, h1, h2 => by
    obtain ⟨n, rfl⟩ : ∃ n, fuel = n + 1 := ⟨fuel - 1, by omega⟩
    have hk := hg.2.2.1
    rw [f_X6_linkOf_b2, c1, hr.2.1, t_le (by omega) (by omega), if_pos (by omega)]
    rfl
  | m + 1, i, fuel, h1, h2 => by
    obtain ⟨n, rfl⟩ : ∃ n, fuel = n + 1 := ⟨fuel - 1, by omega⟩
    have ih := M_find_b hg ha hb hab hr m (i + 1) n (by omega) (by omega)
    have hi : i < gK g := by omega
    have hk := hg.2.2.1
    have h9 := hg.2.1
    obtain ⟨e1, e2, -⟩ := hr.2.2.2 i hi
    obtain ⟨s1, s2, -⟩ := hg.2.2.2.2 i hi
    rw [f_X6_linkOf_b2, c1, hr.2.1, t_le (by omega) (by omega), if_neg (by omega), M_of0 (by omega), M_of1 (by omega)]
    unfold f_X6_linkOf_b32
    rw [M_of0 (by omega), M_of1 (by omega), e1, e2, nI_1]
    simp only [Option.bind_some, n_eq (show gLo g i < 2147483648 by omega) (show a < 2147483648 by omega), n_eq (show gHi g i < 2147483648 by omega) (show b < 2147483648 by omega), n_eq (show gLo g i < 2147483648 by omega) (show b < 2147483648 by omega), n_eq (show gHi g i < 2147483648 by omega) (show a < 2147483648 by omega)]
    rw [ih, fst1]
    by_cases q : gLo g i = min a b ∧ gHi g i = max a b
    · rw [if_pos (show gJoin g a b i = true by simp [q.1, q.2])]
      show _ = some (nI i)
      by_cases q1 : gLo g i = a
      · rw [if_pos q1, if_pos (by omega)]
      · rw [if_neg q1, if_pos (by omega), if_pos (by omega)]
    · rw [if_neg (show ¬ gJoin g a b i = true by simpa using q)]
      by_cases q1 : gLo g i = a
      · rw [if_pos q1, if_neg (by omega), if_neg (by omega)]
      · rw [if_neg q1]
        by_cases q2 : gLo g i = b
        · rw [if_pos q2, if_neg (by omega)]
        · rw [if_neg q2]
theorem M_find {g : AN} {w : Nat → Int32} {a b : Nat} (hg : gOK g) (ha : a < 100) (hb : b < 100) (hab : a ≠ b) (hr : RM w g) : f_X6_linkOf (nI a) (nI b) w = some (enI (-9) (gFind g a b)) := M_find_b hg ha hb hab hr (gK g) 0 1000 (by omega) (by have := hg.2.2.1; omega)
