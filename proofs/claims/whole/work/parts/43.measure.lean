/-! Ways.measure and Model.layLeast are those passes -/
def E9 (a : Nat → Int32) (d : Nat → Nat) : Prop := ∀ x, x < 9 → a x = nI (d x)
theorem E9.up {a : Nat → Int32} {d : Nat → Nat} (h : E9 a d) (k v : Nat) : E9 (upd a k (nI v)) (va_up d k v) := by
  intro x hx
  rw [upd_at, up_at]
  by_cases e : x = k
  · rw [if_pos e, if_pos e]
  · rw [if_neg e, if_neg e]; exact h x hx
/-- rx from link i on, m links -/
def psr (g : AN) (use : Nat → Bool) : Nat → Nat → (Nat → Nat) → Nat → Nat
  | _, 0, d => d
  | i, m + 1, d => psr g use (i + 1) m (rx g use i d)
theorem psr_ps (g : AN) (use : Nat → Bool) (d : Nat → Nat) : ∀ m i, psr g use i m (ps g use d i) = ps g use d (i + m)
  | 0, i => rfl
  | m + 1, i => by
    rw [psr, show rx g use i (ps g use d i) = ps g use d (i + 1) from rfl, psr_ps g use d m (i + 1)]
    congr 1
    omega
theorem psr_le (g : AN) (use : Nat → Bool) : ∀ m i d x, psr g use i m d x ≤ d x
  | 0, i, d, x => Nat.le_refl _
  | m + 1, i, d, x => Nat.le_trans (psr_le g use m (i + 1) _ x) (rx_le g use i d x)
theorem C_weight {len : Nat → Int32} {i v : Nat} (hi : i < 18) (hv : v ≤ 9) (h : len i = nI v) : f_X4_weight (nI i) len = some (nI (16 * v + 1)) := by
  unfold f_X4_weight
  rw [t_inb (by omega), if_pos hi, n_cl (by omega), h, pk_shlN (n := v) ((4 : Int32) &&& (31 : Int32)) 4 (by decide) (by omega), nI_1]
  congr 2
  omega
/-- what both searches need to know of a network -/
def gLinks (g : AN) : Prop := gN g ≤ 9 ∧ gK g ≤ 18 ∧ ∀ i, i < gK g → gLo g i < gHi g i ∧ gHi g i < gN g ∧ gLn g i ≤ 9
theorem gOK.links {g : AN} (h : gOK g) : gLinks g := ⟨h.2.1, h.2.2.1, fun i hi => ⟨(h.2.2.2.2 i hi).1, (h.2.2.2.2 i hi).2.1, (h.2.2.2.2 i hi).2.2.2⟩⟩
def CL (low high len : Nat → Int32) (g : AN) : Prop := ∀ i, i < gK g → low i = nI (gLo g i) ∧ high i = nI (gHi g i) ∧ len i = nI (gLn g i)
theorem C_bring {g : AN} {use : Nat → Bool} {low high len far : Nat → Int32} {d : Nat → Nat} {i : Nat} (hg : gLinks g) (hr : CL low high len g) (hi : i < gK g) (hu : use i = true) (hE : E9 far d) (hd : ∀ x, d x ≤ 1048576) : ∃ (fl : Bool) (far' : Nat → Int32), f_X4_bringNearer (nI i) far low high len = some (b01 fl, far') ∧ E9 far' (rx g use i d) ∧ (fl = false → rx g use i d = d) := by
  obtain ⟨h9, hk, hl⟩ := hg
  obtain ⟨l1', l2', l3'⟩ := hl i hi
  obtain ⟨e1, e2, e3⟩ := hr i hi
  have dl := hd (gLo g i)
  have dh := hd (gHi g i)
  unfold f_X4_bringNearer
  rw [t_inb (by omega), if_pos (by omega), C_weight (by omega) l3' e3, Option.bind_some, n_cl (by omega), e1, e2, t_inb (by omega), if_pos (by omega), t_inb (by omega), if_pos (by omega), n_cl (by omega), n_cl (by omega), hE _ (by omega), hE _ (by omega), n_add, n_add, t_le (by omega) (by omega), t_le (by omega) (by omega)]
  unfold rx
  rw [if_pos hu]
  by_cases h1 : d (gHi g i) ≤ d (gLo g i) + (16 * gLn g i + 1)
  · rw [if_pos h1]
    by_cases h2 : d (gLo g i) ≤ d (gHi g i) + (16 * gLn g i + 1)
    · rw [if_pos h2, if_neg (by omega), if_neg (by omega)]
      exact ⟨false, far, rfl, hE, fun _ => rfl⟩
    · rw [if_neg h2, if_pos (by omega)]
      exact ⟨true, _, rfl, hE.up _ _, fun h => by cases h⟩
  · rw [if_neg h1, if_neg (by omega), if_pos (by omega)]
    exact ⟨true, _, rfl, hE.up _ _, fun h => by cases h⟩
theorem b01_eq0 (b : Bool) {α : Type} {x y : α} : (if b01 b = (0 : Int32) then x else y) = if b = true then y else x := by
  cases b
  · rw [if_pos (by decide), if_neg (by decide)]
  · rw [if_neg (by decide), if_pos (by decide)]
theorem b01_eq1 (b : Bool) {α : Type} {x y : α} : (if b01 b = (1 : Int32) then x else y) = if b = true then x else y := by
  cases b
  · rw [if_neg (by decide), if_neg (by decide)]
  · rw [if_pos (by decide), if_pos (by decide)]
theorem p_bit' (x : Int32) {i : Nat} (hi : i < 32) : f_X5_bit x (nI i) = b01 (bt x i) := p_bit x hi
theorem C_pass {g : AN} {U : Int32} {low high len : Nat → Int32} (hg : gLinks g) (hr : CL low high len g) (K : Int32 → Int32 → (Nat → Int32) → Int32 → Int32 → Int32 → (Nat → Int32) → (Nat → Int32) → (Nat → Int32) → Option ((Nat → Int32) × Int32)) (x4 nn : Int32) : ∀ (m i fuel : Nat) (fl : Bool) (far : Nat → Int32) (d : Nat → Nat), i + m = gK g → m < fuel → E9 far d → (∀ x, d x ≤ 1048576) → ∃ (fl' : Bool) (far' : Nat → Int32), f_X4_measure_b47 K fuel (b01 fl) x4 (nI i) far U nn (nI (gK g)) low high len = K (b01 fl') (x4 + 1) far' U nn (nI (gK g)) low high len ∧ E9 far' (psr g (bt U) i m d) ∧ (fl' = false → psr g (bt U) i m d = d ∧ fl = false)
  | 0, i, fuel, fl, far, d, h1, h2, hE, hd => by
    obtain ⟨n, rfl⟩ : ∃ n, fuel = n + 1 := ⟨fuel - 1, by omega⟩
    have hk := hg.2.1
    rw [f_X4_measure_b47, t_le (by omega) (by omega), if_pos (by omega)]
    exact ⟨fl, far, rfl, hE, fun h => ⟨rfl, h⟩⟩
  | m + 1, i, fuel, fl, far, d, h1, h2, hE, hd => by
    obtain ⟨n, rfl⟩ : ∃ n, fuel = n + 1 := ⟨fuel - 1, by omega⟩
    have hk := hg.2.1
    rw [f_X4_measure_b47, t_le (by omega) (by omega), if_neg (by omega), p_bit' U (by omega), b01_eq1, nI_1]
    by_cases hu : bt U i = true
    · rw [if_pos hu]
      obtain ⟨fb, far1, e, hE1, hf⟩ := C_bring (use := bt U) hg hr (by omega) hu hE hd
      rw [e, Option.bind_some]
      have hd1 : ∀ x, rx g (bt U) i d x ≤ 1048576 := fun x => Nat.le_trans (rx_le _ _ _ _ _) (hd x)
      show ∃ (fl' : Bool) (far' : Nat → Int32), (if b01 fb = (0 : Int32) then f_X4_measure_b47 K n (b01 fl) x4 (nI (i + 1)) far1 U nn (nI (gK g)) low high len else f_X4_measure_b47 K n (b01 true) x4 (nI (i + 1)) far1 U nn (nI (gK g)) low high len) = _ ∧ _
      rw [b01_eq0]
      cases fb with
      | true =>
        rw [if_pos rfl]
        obtain ⟨fl', far', q1, q2, q3⟩ := C_pass hg hr K x4 nn m (i + 1) n true far1 _ (by omega) (by omega) hE1 hd1
        exact ⟨fl', far', q1, q2, fun h => by have := (q3 h).2; cases this⟩
      | false =>
        rw [if_neg (by decide)]
        obtain ⟨fl', far', q1, q2, q3⟩ := C_pass hg hr K x4 nn m (i + 1) n fl far1 _ (by omega) (by omega) hE1 hd1
        refine ⟨fl', far', q1, q2, fun h => ⟨?_, (q3 h).2⟩⟩
        rw [psr, (q3 h).1, hf rfl]
    · rw [if_neg hu]
      obtain ⟨fl', far', q1, q2, q3⟩ := C_pass hg hr K x4 nn m (i + 1) n fl far d (by omega) (by omega) hE hd
      have e : rx g (bt U) i d = d := by unfold rx; rw [if_neg hu]
      refine ⟨fl', far', q1, by rw [psr, e]; exact q2, fun h => by rw [psr, e]; exact q3 h⟩
theorem st0_le (c t x : Nat) : st0 c t x ≤ c := by unfold st0; by_cases e : x = t <;> simp [e]
theorem C_passes {g : AN} {U : Int32} {low high len : Nat → Int32} {t : Nat} (hg : gLinks g) (hr : CL low high len g) {F : Nat → Nat} (hF : ∀ p, gN g ≤ p + 1 → its g (bt U) (st0 1048576 t) p = F) : ∀ (q p fuel : Nat) (fl : Bool) (far : Nat → Int32), p + q = gN g → q < fuel → E9 far (its g (bt U) (st0 1048576 t) p) → (fl = false → Fix g (bt U) (its g (bt U) (st0 1048576 t) p)) → ∃ far' : Nat → Int32, f_X4_measure_b26 fuel (b01 fl) (nI p) far U (nI (gN g)) (nI (gK g)) low high len = some (far', U) ∧ E9 far' F
  | 0, p, fuel, fl, far, h1, h2, hE, hfl => by
    obtain ⟨n, rfl⟩ : ∃ n, fuel = n + 1 := ⟨fuel - 1, by omega⟩
    have hn := hg.1
    rw [f_X4_measure_b26, t_le (by omega) (by omega), if_pos (by omega)]
    exact ⟨far, rfl, by rw [← hF p (by omega)]; exact hE⟩
  | q + 1, p, fuel, fl, far, h1, h2, hE, hfl => by
    obtain ⟨n, rfl⟩ : ∃ n, fuel = n + 1 := ⟨fuel - 1, by omega⟩
    have hn := hg.1
    have hk := hg.2.1
    rw [f_X4_measure_b26, t_le (by omega) (by omega), if_neg (by omega), b01_eq0]
    cases fl with
    | false =>
      rw [if_neg (by decide)]
      refine ⟨far, rfl, ?_⟩
      have h := hF (p + q + 1) (by omega)
      rw [Nat.add_assoc, its_add, its_fix (hfl rfl)] at h
      rw [← h]
      exact hE
    | true =>
      rw [if_pos rfl]
      have hd : ∀ x, its g (bt U) (st0 1048576 t) p x ≤ 1048576 := fun x => Nat.le_trans (its_le _ _ _ _ _) (st0_le _ _ _)
      obtain ⟨fl', far', e, hE', hf⟩ := C_pass hg hr (f_X4_measure_b26 n) (nI p) (nI (gN g)) (gK g) 0 1000 false far _ (by omega) (by omega) hE hd
      have e2 : psr g (bt U) 0 (gK g) (its g (bt U) (st0 1048576 t) p) = its g (bt U) (st0 1048576 t) (p + 1) := by
        have := psr_ps g (bt U) (its g (bt U) (st0 1048576 t) p) (gK g) 0
        rw [Nat.zero_add] at this
        exact this
      rw [e2] at hE' hf
      obtain ⟨far'', q1, q2⟩ := C_passes hg hr hF q (p + 1) n fl' far' (by omega) (by omega) hE' (fun h => by
        have h3 := (hf h).1
        have h4 : Fix g (bt U) (its g (bt U) (st0 1048576 t) p) := fix_of_same (fun i hi => by have := (hg.2.2 i hi).1; omega) (fun i hi => by
          have h5 : ps g (bt U) (its g (bt U) (st0 1048576 t) p) (gK g) = its g (bt U) (st0 1048576 t) p := h3
          exact ⟨congrFun h5 _, congrFun h5 _⟩)
        rw [h3]
        exact h4)
      refine ⟨far'', ?_, q2⟩
      rw [← q1, ← nI_1]
      exact e
theorem C_fill_b : ∀ (m i fuel : Nat) (v : Int32) (a : Nat → Int32), i + m = 9 → m < fuel → (∀ x, x < i → a x = v) → ∃ a', f_J7_fill_53178_b5 fuel v (nI i) (nI 9) a = some a' ∧ ∀ x, x < 9 → a' x = v
  | 0, i, fuel, v, a, h1, h2, h => by
    obtain ⟨n, rfl⟩ : ∃ n, fuel = n + 1 := ⟨fuel - 1, by omega⟩
    rw [f_J7_fill_53178_b5, t_le (by omega) (by omega), if_pos (by omega)]
    exact ⟨a, rfl, fun x hx => h x (by omega)⟩
  | m + 1, i, fuel, v, a, h1, h2, h => by
    obtain ⟨n, rfl⟩ : ∃ n, fuel = n + 1 := ⟨fuel - 1, by omega⟩
    rw [f_J7_fill_53178_b5, t_le (by omega) (by omega), if_neg (by omega), t_inb (by omega), if_pos (by omega), n_cl (by omega), nI_1]
    exact C_fill_b m (i + 1) n v _ (by omega) (by omega) (fun x hx => by
      rw [upd_at]
      by_cases e : x = i
      · rw [if_pos e]
      · rw [if_neg e]; exact h x (by omega))
/-- Ways.measure -/
theorem C_measure {g : AN} {U yu : Int32} {low high len far : Nat → Int32} {t : Nat} (hg : gLinks g) (hr : CL low high len g) (ht : t < gN g) : ∃ far' : Nat → Int32, f_X4_measure U (nI t) far yu (nI (gN g)) (nI (gK g)) low high len = some (far', U) ∧ E9 far' (its g (bt U) (st0 1048576 t) 9) := by
  have hn := hg.1
  obtain ⟨F, -, -, -, -, hF, -⟩ := bf_main (g := g) (use := bt U) (c := 1048576) hn ht (by omega) (fun i hi => ⟨(hg.2.2 i hi).1, (hg.2.2 i hi).2.1⟩)
  obtain ⟨a, e, ha⟩ := C_fill_b 9 0 1000 1048576 far (by omega) (by omega) (fun x hx => by omega)
  unfold f_X4_measure
  rw [show f_J7_fill_53178 1048576 far = some a from e, Option.bind_some, t_inb (by omega), if_pos (by omega), n_cl (by omega)]
  have hE : E9 (upd a t 0) (its g (bt U) (st0 1048576 t) 0) := by
    intro x hx
    show upd a t 0 x = nI (st0 1048576 t x)
    unfold st0
    rw [upd_at]
    by_cases e : x = t
    · rw [if_pos e, if_pos e]; rfl
    · rw [if_neg e, if_neg e]; exact ha x hx
  obtain ⟨far', q1, q2⟩ := C_passes hg hr hF (gN g) 0 1000 true _ (by omega) (by omega) hE (fun h => by cases h)
  exact ⟨far', q1, by rw [hF 9 (by omega)]; exact q2⟩
