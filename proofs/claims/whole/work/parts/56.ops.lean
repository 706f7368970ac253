/-! changes of a network, on both sides -/
theorem upd_ne {f : Nat → Int32} {k j : Nat} {x : Int32} (h : j ≠ k) : upd f k x j = f j := by rw [upd_at, if_neg h]
theorem upd_eq {f : Nat → Int32} {k : Nat} {x : Int32} : upd f k x k = x := by rw [upd_at, if_pos rfl]
theorem up_ne {α : Type} {f : Nat → α} {k j : Nat} {x : α} (h : j ≠ k) : va_up f k x j = f j := by rw [up_at, if_neg h]
theorem up_eq {α : Type} {f : Nat → α} {k : Nat} {x : α} : va_up f k x k = x := by rw [up_at, if_pos rfl]
def gSetR (g : AN) (r : Nat) : AN := (gN g, gK g, r, gLo g, gHi g, gLn g, gAl g, gMp g)
def gSetAl (g : AN) (f : Nat → Bool) : AN := (gN g, gK g, gR g, gLo g, gHi g, gLn g, f, gMp g)
def gSetMp (g : AN) (f : Nat → Bool) : AN := (gN g, gK g, gR g, gLo g, gHi g, gLn g, gAl g, f)
def gClear (g : AN) (n : Nat) : AN := (n, 0, gR g, gLo g, gHi g, gLn g, gAl g, gMp g)
def gApp (g : AN) (a b l : Nat) : AN := (gN g, gK g + 1, gR g, va_up (gLo g) (gK g) (min a b), va_up (gHi g) (gK g) (max a b), va_up (gLn g) (gK g) l, va_up (gAl g) (gK g) true, va_up (gMp g) (gK g) true)
def shf {α : Type} (i : Nat) (f : Nat → α) : Nat → α := fun j => if j < i then f j else f (j + 1)
theorem shf_lt {α : Type} {i j : Nat} {f : Nat → α} (h : j < i) : shf i f j = f j := by unfold shf; rw [if_pos h]
theorem shf_ge {α : Type} {i j : Nat} {f : Nat → α} (h : ¬ j < i) : shf i f j = f (j + 1) := by unfold shf; rw [if_neg h]
theorem shift1 {lo : Nat → Int32} {j x K : Nat} (hj : j + 1 < K) : (if j + 1 ≤ x ∧ x + 1 < K then upd lo j (lo (j + 1)) (x + 1) else upd lo j (lo (j + 1)) x) = if j ≤ x ∧ x + 1 < K then lo (x + 1) else lo x := by
  by_cases c : x = j
  · subst c
    rw [if_neg (by omega), if_pos (by omega), upd_eq]
  · by_cases d : j ≤ x ∧ x + 1 < K
    · rw [if_pos (by omega), if_pos d, upd_ne (by omega)]
    · rw [if_neg (by omega), if_neg d, upd_ne c]
def gDrop (g : AN) (i : Nat) : AN := (gN g, gK g - 1, gR g, shf i (gLo g), shf i (gHi g), shf i (gLn g), shf i (gAl g), shf i (gMp g))
theorem bw1 (b : Bool) : b01 b = if b = true then (1 : Int32) else 0 := rfl
theorem p_withb (x : Int32) {i : Nat} (hi : i < 32) (v : Bool) {j : Nat} (hj : j < 32) : bt (f_X5_withBit x (nI i) (b01 v)) j = if j = i then v else bt x j := p_withBit x hi v hj
theorem Msk.set {x : Int32} {k i : Nat} {f : Nat → Bool} (h : Msk x k f) (hk : k ≤ 18) (hi : i < k) (v : Bool) : Msk (f_X5_withBit x (nI i) (b01 v)) k (va_up f i v) := by
  intro j hj
  rw [p_withb x (by omega) v hj, up_at, h j hj]
  by_cases e : j = i
  · rw [if_pos e, if_pos e, decide_eq_true (by omega), Bool.true_and]
  · rw [if_neg e, if_neg e]
theorem Msk.add {x : Int32} {k : Nat} {f : Nat → Bool} (h : Msk x k f) (hk : k < 18) : Msk (f_X5_withBit x (nI k) 1) (k + 1) (va_up f k true) := by
  intro j hj
  rw [p_with1 x (by omega) hj, up_at, h j hj]
  by_cases e : j = k
  · rw [if_pos e, if_pos e, decide_eq_true (by omega), Bool.true_and]
  · rw [if_neg e, if_neg e]
    have : decide (j < k + 1) = decide (j < k) := by congr 1; exact propext ⟨fun _ => by omega, fun _ => by omega⟩
    rw [this]
theorem Msk.drop {x : Int32} {k i : Nat} {f : Nat → Bool} (h : Msk x k f) (hk : k ≤ 18) (hi : i < k) : Msk (f_X1_withoutPlace x (nI i)) (k - 1) (shf i f) := by
  intro j hj
  rw [p_without x (by omega) hj]
  unfold shf
  by_cases e : j < i
  · rw [if_pos e, if_pos e, h j hj, decide_eq_true (show j < k by omega), decide_eq_true (show j < k - 1 by omega)]
  · rw [if_neg e, if_neg e]
    by_cases c : j + 1 < 32
    · rw [h (j + 1) c]
      have : decide (j + 1 < k) = decide (j < k - 1) := by congr 1; exact propext ⟨fun _ => by omega, fun _ => by omega⟩
      rw [this]
    · rw [b_big (by omega), decide_eq_false (show ¬ j < k - 1 by omega), Bool.false_and]
theorem Msk.zero (f : Nat → Bool) : Msk 0 0 f := fun i _ => by rw [b_0]; simp
theorem Msk.butnot {x y : Int32} {k : Nat} {f c : Nat → Bool} (h : Msk x k f) (hk : k ≤ 18) (hy : ∀ i, i < k → bt y i = c i) : Msk (x &&& (y ^^^ (-1 : Int32))) k (fun i => f i && !c i) := by
  intro i hi
  rw [b_and, b_xor, b_m1 i hi, h i hi]
  by_cases e : i < k
  · rw [hy i e, decide_eq_true e]; simp
  · rw [decide_eq_false e]; simp
theorem Msk.both {x y : Int32} {k : Nat} {f c : Nat → Bool} (h : Msk x k f) (hk : k ≤ 18) (hy : ∀ i, i < k → bt y i = c i) : Msk (x &&& y) k (fun i => f i && c i) := by
  intro i hi
  rw [b_and, h i hi]
  by_cases e : i < k
  · rw [hy i e, decide_eq_true e]; simp
  · rw [decide_eq_false e]; simp
/-! adding a link -/
theorem S_refuse {g : AN} {low high len w : Nat → Int32} (hg : gOK g) (hr : CL low high len g) (hw : RM w g) (p1 p2 p3 : Int32) : ∃ r : Int32, f_X1_refusalOfLink p1 p2 p3 (nI (gN g)) (nI (gK g)) low high = some r ∧ f_X6_faultOfAdd p1 p2 p3 w = some r ∧ ((r < 0 ∧ ¬ r = 0 ∧ ¬ (0 : Int32) ≤ r) ∨ (r = 0 ∧ ∃ a b l : Nat, p1 = nI a ∧ p2 = nI b ∧ p3 = nI l ∧ a < gN g ∧ b < gN g ∧ a ≠ b ∧ 1 ≤ l ∧ l ≤ 9 ∧ gK g < 18)) := by
  have h9 := hg.2.1
  have hk := hg.2.2.1
  have neg : ∀ z : Int32, z = -1 ∨ z = -2 ∨ z = -3 → z < 0 ∧ ¬ z = 0 ∧ ¬ (0 : Int32) ≤ z := by
    intro z hz
    rcases hz with rfl | rfl | rfl <;> decide
  unfold f_X1_refusalOfLink f_X6_faultOfAdd
  rcases chk_node h9 hw p1 with ⟨e1, e2⟩ | ⟨a, ha, rfl, e1, e2⟩
  · rw [e1, e2, if_pos rfl, Option.bind_some, if_pos rfl]; exact ⟨_, rfl, rfl, Or.inl (neg _ (Or.inl rfl))⟩
  rw [e1, e2, if_neg ne10, Option.bind_some, if_neg ne10]
  rcases chk_node h9 hw p2 with ⟨e3, e4⟩ | ⟨b, hb, rfl, e3, e4⟩
  · rw [e3, e4, if_pos rfl, Option.bind_some, if_pos rfl]; exact ⟨_, rfl, rfl, Or.inl (neg _ (Or.inl rfl))⟩
  rw [e3, e4, if_neg ne10, Option.bind_some, if_neg ne10, t_eq (by omega) (by omega), t_eq (by omega) (by omega)]
  by_cases c : a = b
  · rw [if_pos c, if_pos c]; exact ⟨_, rfl, rfl, Or.inl (neg _ (Or.inl rfl))⟩
  rw [if_neg c, if_neg c]
  rcases chk_in p3 (a := 1) (b := 9) (by omega) (by omega) with ⟨e, d⟩ | ⟨l, hl1, hl9, rfl, e⟩
  · rw [show f_X6_isIn p3 1 9 = 0 from e, if_pos (show (0 : Int32) = 0 from rfl)]
    by_cases q : p3 < 1
    · rw [if_pos q]; exact ⟨_, rfl, rfl, Or.inl (neg _ (Or.inl rfl))⟩
    · rw [if_neg q]
      have q2 : (9 : Int32) < p3 := by
        rcases d with d | d
        · exact absurd d q
        · exact d
      rw [if_neg (show ¬ p3 ≤ 9 by rw [i_lt] at q2; rw [i_le]; omega)]
      exact ⟨_, rfl, rfl, Or.inl (neg _ (Or.inl rfl))⟩
  rw [show f_X6_isIn (nI l) 1 9 = 1 from e, if_neg ne10, if_neg (show ¬ nI l < 1 by rw [l1, n_lt (by omega) (by omega)]; omega), if_pos (show nI l ≤ 9 by rw [l9, n_le (by omega) (by omega)]; omega), C_find hk (by omega) (by omega) (fun i hi => by have := hg.2.2.2.2 i hi; omega) (fun i hi => ⟨(hr i hi).1, (hr i hi).2.1⟩), M_find hg (by omega) (by omega) c hw, Option.bind_some, Option.bind_some, c1, hw.2.1, l18, t_lt (by omega) (by omega), t_eq (by omega) (by omega)]
  cases hf : gFind g a b with
  | none =>
    rw [enI_none, enI_none, if_pos (show (-1 : Int32) = -1 from rfl), if_pos (show (-9 : Int32) = -9 from rfl)]
    by_cases q : gK g < 18
    · rw [if_pos q, if_neg (show ¬ gK g = 18 by omega)]
      exact ⟨_, rfl, rfl, Or.inr ⟨rfl, a, b, l, rfl, rfl, rfl, ha, hb, c, hl1, hl9, q⟩⟩
    · rw [if_neg q, if_pos (show gK g = 18 by omega)]; exact ⟨_, rfl, rfl, Or.inl (neg _ (Or.inr (Or.inr rfl)))⟩
  | some j =>
    have := fst1_some hf
    rw [enI_some, enI_some, if_neg (n_ne (by omega) (by decide)), if_neg (n_ne (by omega) (by decide))]
    exact ⟨_, rfl, rfl, Or.inl (neg _ (Or.inr (Or.inl rfl)))⟩
theorem gApp_ok {g : AN} {a b l : Nat} (hg : gOK g) (ha : a < gN g) (hb : b < gN g) (hab : a ≠ b) (h1 : 1 ≤ l) (h9 : l ≤ 9) (hk : gK g < 18) : gOK (gApp g a b l) := by
  obtain ⟨g1, g2, g3, g4, g5⟩ := hg
  refine ⟨g1, g2, ?_, g4, fun i hi => ?_⟩
  · show gK g + 1 ≤ 18; omega
  · have hi2 : i < gK g + 1 := hi
    show va_up (gLo g) (gK g) (min a b) i < va_up (gHi g) (gK g) (max a b) i ∧ va_up (gHi g) (gK g) (max a b) i < gN g ∧ 1 ≤ va_up (gLn g) (gK g) l i ∧ va_up (gLn g) (gK g) l i ≤ 9
    rw [up_at, up_at, up_at]
    by_cases e : i = gK g
    · rw [if_pos e, if_pos e, if_pos e]; omega
    · rw [if_neg e, if_neg e, if_neg e]; exact g5 i (by omega)
theorem C_append {g : AN} {v : NV} {a b l : Nat} (hr : RC v g) (ha : a < 9) (hb : b < 9) (hab : a ≠ b) (hk : gK g < 18) : ∃ (A' I' : Int32) (lo' hi' ln' : Nat → Int32), f_X1_appendLink (nI a) (nI b) (nI l) v.2.1 v.2.2.2.1 v.2.2.2.2.1 v.2.2.2.2.2.1 v.2.2.2.2.2.2.1 v.2.2.2.2.2.2.2 = some (nI (gK g + 1), A', I', lo', hi', ln') ∧ RC (v.1, nI (gK g + 1), v.2.2.1, A', I', lo', hi', ln') (gApp g a b l) := by
  obtain ⟨r1, r2, r3, r4, r5, r6⟩ := hr
  unfold f_X1_appendLink
  rw [r2, t_inb (by omega), if_pos hk, n_cl (by omega), nI_1, n_min (by omega) (by omega), n_max (by omega) (by omega)]
  refine ⟨_, _, _, _, _, rfl, r1, rfl, r3, r4.add hk, r5.add hk, fun i hi => ?_⟩
  have hi2 : i < gK g + 1 := hi
  show upd v.2.2.2.2.2.1 (gK g) (nI (min a b)) i = nI (va_up (gLo g) (gK g) (min a b) i) ∧ upd v.2.2.2.2.2.2.1 (gK g) (nI (max a b)) i = nI (va_up (gHi g) (gK g) (max a b) i) ∧ upd v.2.2.2.2.2.2.2 (gK g) (nI l) i = nI (va_up (gLn g) (gK g) l i)
  rw [upd_at, upd_at, upd_at, up_at, up_at, up_at]
  by_cases e : i = gK g
  · rw [if_pos e, if_pos e, if_pos e, if_pos e, if_pos e, if_pos e]; exact ⟨rfl, rfl, rfl⟩
  · rw [if_neg e, if_neg e, if_neg e, if_neg e, if_neg e, if_neg e]; exact r6 i (by omega)
theorem M_append {g : AN} {w : Nat → Int32} {a b l : Nat} (hw : RM w g) (ha : a < 9) (hb : b < 9) (hab : a ≠ b) (hk : gK g < 18) : ∃ w' : Nat → Int32, f_X6_append (nI a) (nI b) (nI l) w = some w' ∧ RM w' (gApp g a b l) := by
  obtain ⟨w1, w2, w3, w4⟩ := hw
  have main : ∀ x y : Nat, x = min a b → y = max a b → ∃ w' : Nat → Int32, some (upd (upd (upd (upd (upd (upd w (3 + 5 * gK g) (nI x)) (4 + 5 * gK g) (nI y)) (5 + 5 * gK g) (nI l)) (6 + 5 * gK g) 1) (7 + 5 * gK g) 1) 1 (nI (gK g + 1))) = some w' ∧ RM w' (gApp g a b l) := by
    intro x y hx hy
    refine ⟨_, rfl, ?_, rfl, ?_, fun i hi => ?_⟩
    · rw [upd_ne (by omega), upd_ne (by omega), upd_ne (by omega), upd_ne (by omega), upd_ne (by omega), upd_ne (by omega)]; exact w1
    · rw [upd_ne (by omega), upd_ne (by omega), upd_ne (by omega), upd_ne (by omega), upd_ne (by omega), upd_ne (by omega)]; exact w3
    · have hi2 : i < gK g + 1 := hi
      show _ = nI (va_up (gLo g) (gK g) (min a b) i) ∧ _ = nI (va_up (gHi g) (gK g) (max a b) i) ∧ _ = nI (va_up (gLn g) (gK g) l i) ∧ _ = b01 (va_up (gAl g) (gK g) true i) ∧ _ = b01 (va_up (gMp g) (gK g) true i)
      by_cases e : i = gK g
      · subst e
        rw [up_eq, up_eq, up_eq, up_eq, up_eq, ← hx, ← hy]
        refine ⟨?_, ?_, ?_, ?_, ?_⟩
        · rw [upd_ne (by omega), upd_ne (by omega), upd_ne (by omega), upd_ne (by omega), upd_ne (by omega), upd_eq]
        · rw [upd_ne (by omega), upd_ne (by omega), upd_ne (by omega), upd_ne (by omega), upd_eq]
        · rw [upd_ne (by omega), upd_ne (by omega), upd_ne (by omega), upd_eq]
        · rw [upd_ne (by omega), upd_ne (by omega), upd_eq]; rfl
        · rw [upd_ne (by omega), upd_eq]; rfl
      · rw [up_ne e, up_ne e, up_ne e, up_ne e, up_ne e]
        obtain ⟨z1, z2, z3, z4, z5⟩ := w4 i (by omega)
        refine ⟨?_, ?_, ?_, ?_, ?_⟩
        · rw [upd_ne (by omega), upd_ne (by omega), upd_ne (by omega), upd_ne (by omega), upd_ne (by omega), upd_ne (by omega)]; exact z1
        · rw [upd_ne (by omega), upd_ne (by omega), upd_ne (by omega), upd_ne (by omega), upd_ne (by omega), upd_ne (by omega)]; exact z2
        · rw [upd_ne (by omega), upd_ne (by omega), upd_ne (by omega), upd_ne (by omega), upd_ne (by omega), upd_ne (by omega)]; exact z3
        · rw [upd_ne (by omega), upd_ne (by omega), upd_ne (by omega), upd_ne (by omega), upd_ne (by omega), upd_ne (by omega)]; exact z4
        · rw [upd_ne (by omega), upd_ne (by omega), upd_ne (by omega), upd_ne (by omega), upd_ne (by omega), upd_ne (by omega)]; exact z5
  have b47 : ∀ (w0 : Nat → Int32) (y : Nat), w0 1 = nI (gK g) → f_X6_append_b47 (nI l) (nI (3 + 5 * gK g)) (nI y) (nI (4 + 5 * gK g)) w0 = some (upd (upd (upd (upd (upd w0 (4 + 5 * gK g) (nI y)) (5 + 5 * gK g) (nI l)) (6 + 5 * gK g) 1) (7 + 5 * gK g) 1) 1 (nI (gK g + 1))) := by
    intro w0 y h1
    unfold f_X6_append_b47
    rw [l2, l3, l4, n_add, n_add, n_add, t_inb (by omega), if_pos (show 4 + 5 * gK g < 93 by omega), t_inb (by omega), if_pos (show 3 + 5 * gK g + 2 < 93 by omega), t_inb (by omega), if_pos (show 3 + 5 * gK g + 3 < 93 by omega), t_inb (by omega), if_pos (show 3 + 5 * gK g + 4 < 93 by omega), n_cl (by omega), n_cl (by omega), n_cl (by omega), n_cl (by omega), c1, show 3 + 5 * gK g + 2 = 5 + 5 * gK g by omega, show 3 + 5 * gK g + 3 = 6 + 5 * gK g by omega, show 3 + 5 * gK g + 4 = 7 + 5 * gK g by omega]
    have : upd (upd (upd (upd w0 (4 + 5 * gK g) (nI y)) (5 + 5 * gK g) (nI l)) (6 + 5 * gK g) 1) (7 + 5 * gK g) 1 1 = nI (gK g) := by
      rw [upd_ne (by omega), upd_ne (by omega), upd_ne (by omega), upd_ne (by omega)]; exact h1
    rw [this, nI_1]
  have b28 : ∀ x : Nat, f_X6_append_b28 (nI a) (nI b) (nI l) (nI (3 + 5 * gK g)) (nI x) (nI (3 + 5 * gK g)) w = some (upd (upd (upd (upd (upd (upd w (3 + 5 * gK g) (nI x)) (4 + 5 * gK g) (nI (max a b))) (5 + 5 * gK g) (nI l)) (6 + 5 * gK g) 1) (7 + 5 * gK g) 1) 1 (nI (gK g + 1))) := by
    intro x
    unfold f_X6_append_b28
    have h1 : upd w (3 + 5 * gK g) (nI x) 1 = nI (gK g) := by rw [upd_at, if_neg (by omega)]; exact w2
    rw [t_inb (by omega), if_pos (show 3 + 5 * gK g < 93 by omega), t_le (by omega) (by omega), n_cl (by omega), nI_1, show 3 + 5 * gK g + 1 = 4 + 5 * gK g by omega, b47 _ a h1, b47 _ b h1]
    by_cases c : b ≤ a
    · rw [if_pos c, Nat.max_eq_left c]
    · rw [if_neg c, Nat.max_eq_right (by omega)]
  unfold f_X6_append
  rw [c1, w2, l3, l5, n_mul, n_add, t_le (by omega) (by omega), b28, b28]
  by_cases c : b ≤ a
  · rw [if_pos c]; exact main b (max a b) (by omega) rfl
  · rw [if_neg c]; exact main a (max a b) (by omega) rfl
/-! dropping a link -/
theorem C_drop_b {i K : Nat} {k0 A I : Int32} (hk : K ≤ 18) (hi : i < K) (h0 : k0 = nI K) : ∀ (m j fuel : Nat) (lo hi ln : Nat → Int32), j + 1 + m = K → m < fuel → ∃ lo' hi' ln' : Nat → Int32, f_X1_dropLink_b2 fuel (nI i) (nI j) k0 A I lo hi ln = some (nI (K - 1), f_X1_withoutPlace A (nI i), f_X1_withoutPlace I (nI i), lo', hi', ln') ∧ ∀ x, (lo' x = if j ≤ x ∧ x + 1 < K then lo (x + 1) else lo x) ∧ (hi' x = if j ≤ x ∧ x + 1 < K then hi (x + 1) else hi x) ∧ (ln' x = if j ≤ x ∧ x + 1 < K then ln (x + 1) else ln x)
  | 0, j, fuel, lo, hi, ln, h1, h2 => by
    obtain ⟨n, rfl⟩ : ∃ n, fuel = n + 1 := ⟨fuel - 1, by omega⟩
    rw [f_X1_dropLink_b2, h0, nI_1, t_le (by omega) (by omega), if_pos (by omega), l1, n_sub (by omega)]
    have no : ∀ x, ¬ (j ≤ x ∧ x + 1 < K) := fun x => by omega
    exact ⟨lo, hi, ln, rfl, fun x => by rw [if_neg (no x), if_neg (no x), if_neg (no x)]; exact ⟨rfl, rfl, rfl⟩⟩
  | m + 1, j, fuel, lo, hi, ln, h1, h2 => by
    obtain ⟨n, rfl⟩ : ∃ n, fuel = n + 1 := ⟨fuel - 1, by omega⟩
    have h00 := h0
    rw [f_X1_dropLink_b2, h0, nI_1, t_le (by omega) (by omega), if_neg (by omega), t_inb (by omega), if_pos (show j + 1 < 18 by omega), t_inb (by omega), if_pos (show j < 18 by omega), n_cl (by omega), n_cl (by omega), ← h00]
    obtain ⟨lo', hi', ln', e, h⟩ := C_drop_b hk (i := i) (A := A) (I := I) (by assumption) h0 m (j + 1) n (upd lo j (lo (j + 1))) (upd hi j (hi (j + 1))) (upd ln j (ln (j + 1))) (by omega) (by omega)
    refine ⟨lo', hi', ln', e, fun x => ?_⟩
    obtain ⟨q1, q2, q3⟩ := h x
    exact ⟨q1.trans (shift1 (by omega)), q2.trans (shift1 (by omega)), q3.trans (shift1 (by omega))⟩
theorem C_dropLink {g : AN} {v : NV} {i : Nat} (hr : RC v g) (hk : gK g ≤ 18) (hi : i < gK g) : ∃ (A' I' : Int32) (lo' hi' ln' : Nat → Int32), f_X1_dropLink (nI i) v.2.1 v.2.2.2.1 v.2.2.2.2.1 v.2.2.2.2.2.1 v.2.2.2.2.2.2.1 v.2.2.2.2.2.2.2 = some (nI (gK g - 1), A', I', lo', hi', ln') ∧ RC (v.1, nI (gK g - 1), v.2.2.1, A', I', lo', hi', ln') (gDrop g i) := by
  obtain ⟨r1, r2, r3, r4, r5, r6⟩ := hr
  obtain ⟨lo', hi', ln', e, h⟩ := C_drop_b (A := v.2.2.2.1) (I := v.2.2.2.2.1) hk hi r2 (gK g - 1 - i) i 1000 v.2.2.2.2.2.1 v.2.2.2.2.2.2.1 v.2.2.2.2.2.2.2 (by omega) (by omega)
  refine ⟨_, _, lo', hi', ln', e, r1, rfl, r3, r4.drop hk hi, r5.drop hk hi, fun j hj => ?_⟩
  have hj2 : j < gK g - 1 := hj
  obtain ⟨q1, q2, q3⟩ := h j
  show lo' j = nI (shf i (gLo g) j) ∧ hi' j = nI (shf i (gHi g) j) ∧ ln' j = nI (shf i (gLn g) j)
  by_cases c : j < i
  · have no : ¬ (i ≤ j ∧ j + 1 < gK g) := by omega
    rw [q1, q2, q3, if_neg no, if_neg no, if_neg no, shf_lt c, shf_lt c, shf_lt c]; exact r6 j (by omega)
  · have yes : i ≤ j ∧ j + 1 < gK g := by omega
    rw [q1, q2, q3, if_pos yes, if_pos yes, if_pos yes, shf_ge c, shf_ge c, shf_ge c]; exact r6 (j + 1) (by omega)
theorem M_drop_b {K : Nat} {past : Nat → Int32} {pm old : Int32} (hK : 1 ≤ K) (hk : K ≤ 18) : ∀ (m x fuel : Nat) (w : Nat → Int32), x + m = 3 + 5 * (K - 1) → m < fuel → 3 ≤ x → w 1 = nI K → ∃ w' : Nat → Int32, f_X6_remove_b20 fuel (nI x) w past pm old = some (nI (K - 1), w', past, pm, 1) ∧ ∀ y, w' y = if y = 1 then nI (K - 1) else if x ≤ y ∧ y < 3 + 5 * (K - 1) then w (y + 5) else w y
  | 0, x, fuel, w, h1, h2, h3, h4 => by
    obtain ⟨n, rfl⟩ : ∃ n, fuel = n + 1 := ⟨fuel - 1, by omega⟩
    rw [f_X6_remove_b20, c1, h4, l1, n_sub (by omega), l3, l5, n_mul, n_add, t_le (by omega) (by omega), if_pos (by omega)]
    refine ⟨_, rfl, fun y => ?_⟩
    rw [upd_at]
    by_cases c : y = 1
    · rw [if_pos c, if_pos c]
    · rw [if_neg c, if_neg c, if_neg (by omega)]
  | m + 1, x, fuel, w, h1, h2, h3, h4 => by
    obtain ⟨n, rfl⟩ : ∃ n, fuel = n + 1 := ⟨fuel - 1, by omega⟩
    rw [f_X6_remove_b20, c1, h4, l1, n_sub (by omega), l3, l5, n_mul, n_add, t_le (by omega) (by omega), if_neg (by omega), n_add, t_inb (by omega), if_pos (show x + 5 < 93 by omega), t_inb (by omega), if_pos (show x < 93 by omega), n_cl (by omega), n_cl (by omega), n_add]
    obtain ⟨w', e, h⟩ := M_drop_b (past := past) (pm := pm) (old := old) hK hk m (x + 1) n (upd w x (w (x + 5))) (by omega) (by omega) (by omega) (by rw [upd_at, if_neg (by omega)]; exact h4)
    refine ⟨w', e, fun y => ?_⟩
    rw [h y, upd_at, upd_at]
    by_cases c : y = 1
    · rw [if_pos c, if_pos c]
    · rw [if_neg c, if_neg c]
      by_cases d : y = x
      · rw [if_neg (by omega), if_pos d, if_pos (by omega), d]
      · by_cases q : x ≤ y ∧ y < 3 + 5 * (K - 1)
        · rw [if_pos (by omega), if_neg (by omega), if_pos q]
        · rw [if_neg (by omega), if_neg d, if_neg q]
theorem M_dropLink {g : AN} {w past : Nat → Int32} {pm old : Int32} {i : Nat} (hw : RM w g) (hk : gK g ≤ 18) (hi : i < gK g) : ∃ w' : Nat → Int32, f_X6_remove_b20 1000 (nI (3 + 5 * i)) w past pm old = some (nI (gK g - 1), w', past, pm, 1) ∧ RM w' (gDrop g i) := by
  obtain ⟨w1, w2, w3, w4⟩ := hw
  obtain ⟨w', e, h⟩ := M_drop_b (past := past) (pm := pm) (old := old) (show 1 ≤ gK g by omega) hk (3 + 5 * (gK g - 1) - (3 + 5 * i)) (3 + 5 * i) 1000 w (by omega) (by omega) (by omega) w2
  refine ⟨w', e, ?_, ?_, ?_, fun j hj => ?_⟩
  · rw [h, if_neg (by omega), if_neg (by omega)]; exact w1
  · rw [h, if_pos rfl]; rfl
  · rw [h, if_neg (by omega), if_neg (by omega)]; exact w3
  · have hj2 : j < gK g - 1 := hj
    show _ = nI (shf i (gLo g) j) ∧ _ = nI (shf i (gHi g) j) ∧ _ = nI (shf i (gLn g) j) ∧ _ = b01 (shf i (gAl g) j) ∧ _ = b01 (shf i (gMp g) j)
    have lo : ∀ y, y < 3 + 5 * i → y ≠ 1 → w' y = w y := fun y hy h1 => by rw [h, if_neg h1, if_neg (by omega)]
    have hi' : ∀ y, 3 + 5 * i ≤ y → y < 3 + 5 * (gK g - 1) → w' y = w (y + 5) := fun y hy h1 => by rw [h, if_neg (by omega), if_pos (by omega)]
    by_cases c : j < i
    · rw [lo _ (by omega) (by omega), lo _ (by omega) (by omega), lo _ (by omega) (by omega), lo _ (by omega) (by omega), lo _ (by omega) (by omega), shf_lt c, shf_lt c, shf_lt c, shf_lt c, shf_lt c]
      exact w4 j (by omega)
    · rw [hi' _ (by omega) (by omega), hi' _ (by omega) (by omega), hi' _ (by omega) (by omega), hi' _ (by omega) (by omega), hi' _ (by omega) (by omega), shf_ge c, shf_ge c, shf_ge c, shf_ge c, shf_ge c]
      exact w4 (j + 1) (by omega)
theorem gDrop_ok {g : AN} {i : Nat} (hg : gOK g) (hi : i < gK g) : gOK (gDrop g i) := by
  obtain ⟨g1, g2, g3, g4, g5⟩ := hg
  refine ⟨g1, g2, ?_, g4, fun j hj => ?_⟩
  · show gK g - 1 ≤ 18; omega
  · have hj2 : j < gK g - 1 := hj
    show shf i (gLo g) j < shf i (gHi g) j ∧ shf i (gHi g) j < gN g ∧ 1 ≤ shf i (gLn g) j ∧ shf i (gLn g) j ≤ 9
    by_cases c : j < i
    · rw [shf_lt c, shf_lt c, shf_lt c]; exact g5 j (by omega)
    · rw [shf_ge c, shf_ge c, shf_ge c]; exact g5 (j + 1) (by omega)
