/-! the first link of a best way -/
def oe (g : AN) (i u : Nat) : Option Nat := if gLo g i = u then some (gHi g i) else if gHi g i = u then some (gLo g i) else none
theorem oe_lt {g : AN} {i u v n : Nat} (h : gLo g i < gHi g i ∧ gHi g i < n) (e : oe g i u = some v) : v < n := by
  unfold oe at e
  by_cases h1 : gLo g i = u
  · rw [if_pos h1] at e; cases e; omega
  · rw [if_neg h1] at e
    by_cases h2 : gHi g i = u
    · rw [if_pos h2] at e; cases e; omega
    · rw [if_neg h2] at e; cases e
theorem C_otherEnd {g : AN} {low high len : Nat → Int32} {i u : Nat} (hg : gLinks g) (hr : CL low high len g) (hi : i < gK g) (hu : u < 2147483648) : f_X1_otherEnd (nI i) (nI u) low high = some (enI (-1) (oe g i u)) := by
  obtain ⟨h9, hk, hl⟩ := hg
  obtain ⟨s1, s2, -⟩ := hl i hi
  obtain ⟨e1, e2, -⟩ := hr i hi
  unfold f_X1_otherEnd oe
  rw [t_inb (by omega), if_pos (by omega), n_cl (by omega), e1, e2, t_eq (by omega) hu, t_eq (by omega) hu]
  by_cases h1 : gLo g i = u
  · rw [if_pos h1, if_pos h1]; rfl
  · rw [if_neg h1, if_neg h1]
    by_cases h2 : gHi g i = u
    · rw [if_pos h2, if_pos h2]; rfl
    · rw [if_neg h2, if_neg h2]; rfl
theorem M_otherEnd {g : AN} {w : Nat → Int32} {i u : Nat} (hg : gLinks g) (hw : RM w g) (hi : i < gK g) (hu : u < 2147483648) : f_X6_otherEnd (nI i) (nI u) w = some (enI (-9) (oe g i u)) := by
  obtain ⟨h9, hk, hl⟩ := hg
  obtain ⟨s1, s2, -⟩ := hl i hi
  obtain ⟨e1, e2, -⟩ := hw.2.2.2 i hi
  unfold f_X6_otherEnd oe
  rw [M_of0 (by omega), Option.bind_some, M_of1 (by omega), Option.bind_some, Option.bind_some, Option.bind_some, e1, e2, t_eq (by omega) hu, t_eq (by omega) hu]
  by_cases h1 : gLo g i = u
  · rw [if_pos h1, if_pos h1]; rfl
  · rw [if_neg h1, if_neg h1]
    by_cases h2 : gHi g i = u
    · rw [if_pos h2, if_pos h2]; rfl
    · rw [if_neg h2, if_neg h2]; rfl
def lvl (g : AN) (u : Nat) : Option Nat → Nat
  | none => 9
  | some j => (oe g j u).getD 9
def fls (g : AN) (use : Nat → Bool) (d : Nat → Nat) (u : Nat) (acc : Option Nat) (i : Nat) : Option Nat :=
  match oe g i u with
  | none => acc
  | some v => if use i = true ∧ v < lvl g u acc ∧ d v + (16 * gLn g i + 1) = d u then some i else acc
def flr (g : AN) (use : Nat → Bool) (d : Nat → Nat) (u : Nat) : Nat → Nat → Option Nat → Option Nat
  | _, 0, acc => acc
  | i, m + 1, acc => flr g use d u (i + 1) m (fls g use d u acc i)
def FL (g : AN) (use : Nat → Bool) (d : Nat → Nat) (u : Nat) : Option Nat := flr g use d u 0 (gK g) none
/-- what an answer of the search says -/
def flok (g : AN) (use : Nat → Bool) (d : Nat → Nat) (u : Nat) : Option Nat → Prop
  | none => True
  | some j => j < gK g ∧ use j = true ∧ ∃ v, oe g j u = some v ∧ d v + (16 * gLn g j + 1) = d u
theorem fls_ok {g : AN} {use : Nat → Bool} {d : Nat → Nat} {u i : Nat} {acc : Option Nat} (hi : i < gK g) (h : flok g use d u acc) : flok g use d u (fls g use d u acc i) := by
  unfold fls
  cases e : oe g i u with
  | none => exact h
  | some v =>
    show flok g use d u (if use i = true ∧ v < lvl g u acc ∧ d v + (16 * gLn g i + 1) = d u then some i else acc)
    by_cases c : use i = true ∧ v < lvl g u acc ∧ d v + (16 * gLn g i + 1) = d u
    · rw [if_pos c]; exact ⟨hi, c.1, v, e, c.2.2⟩
    · rw [if_neg c]; exact h
theorem flr_ok {g : AN} {use : Nat → Bool} {d : Nat → Nat} {u : Nat} : ∀ (m i : Nat) (acc : Option Nat), i + m = gK g → flok g use d u acc → flok g use d u (flr g use d u i m acc)
  | 0, i, acc, _, h => h
  | m + 1, i, acc, h1, h => flr_ok m (i + 1) _ (by omega) (fls_ok (by omega) h)
theorem FL_ok (g : AN) (use : Nat → Bool) (d : Nat → Nat) (u : Nat) : flok g use d u (FL g use d u) := flr_ok (gK g) 0 none (by omega) trivial
theorem flr_some {g : AN} {use : Nat → Bool} {d : Nat → Nat} {u : Nat} : ∀ (m i j : Nat), ∃ z, flr g use d u i m (some j) = some z
  | 0, i, j => ⟨j, rfl⟩
  | m + 1, i, j => by
    rw [flr]
    have : ∃ z, fls g use d u (some j) i = some z := by
      unfold fls
      cases oe g i u with
      | none => exact ⟨j, rfl⟩
      | some v =>
        show ∃ z, (if use i = true ∧ v < lvl g u (some j) ∧ d v + (16 * gLn g i + 1) = d u then some i else some j) = some z
        by_cases c : use i = true ∧ v < lvl g u (some j) ∧ d v + (16 * gLn g i + 1) = d u
        · rw [if_pos c]; exact ⟨i, rfl⟩
        · rw [if_neg c]; exact ⟨j, rfl⟩
    obtain ⟨z, hz⟩ := this
    rw [hz]
    exact flr_some m (i + 1) z
/-- where there is a tight link, one is found -/
theorem flr_found {g : AN} {use : Nat → Bool} {d : Nat → Nat} {u j v : Nat} (hu : use j = true) (hv : v < 9) (ho : oe g j u = some v) (hd : d v + (16 * gLn g j + 1) = d u) : ∀ (m i : Nat) (acc : Option Nat), i ≤ j → j < i + m → ∃ z, flr g use d u i m acc = some z
  | 0, i, acc, h1, h2 => by omega
  | m + 1, i, acc, h1, h2 => by
    rw [flr]
    by_cases e : i = j
    · subst e
      have : ∃ z, fls g use d u acc i = some z := by
        unfold fls
        rw [ho]
        show ∃ z, (if use i = true ∧ v < lvl g u acc ∧ d v + (16 * gLn g i + 1) = d u then some i else acc) = some z
        cases acc with
        | none => rw [if_pos ⟨hu, hv, hd⟩]; exact ⟨i, rfl⟩
        | some q =>
          by_cases c : use i = true ∧ v < lvl g u (some q) ∧ d v + (16 * gLn g i + 1) = d u
          · rw [if_pos c]; exact ⟨i, rfl⟩
          · rw [if_neg c]; exact ⟨q, rfl⟩
      obtain ⟨z, hz⟩ := this
      rw [hz]
      exact flr_some m (i + 1) z
    · exact flr_found hu hv ho hd m (i + 1) _ (by omega) (by omega)
theorem flr_congr {g : AN} {use : Nat → Bool} {d e : Nat → Nat} {u : Nat} (h : ∀ i v, i < gK g → use i = true → oe g i u = some v → (d v + (16 * gLn g i + 1) = d u ↔ e v + (16 * gLn g i + 1) = e u)) : ∀ (m i : Nat) (acc : Option Nat), i + m = gK g → flr g use d u i m acc = flr g use e u i m acc
  | 0, i, acc, _ => rfl
  | m + 1, i, acc, h1 => by
    rw [flr, flr]
    have : fls g use d u acc i = fls g use e u acc i := by
      unfold fls
      cases ho : oe g i u with
      | none => rfl
      | some v =>
        show (if use i = true ∧ v < lvl g u acc ∧ d v + (16 * gLn g i + 1) = d u then some i else acc) = (if use i = true ∧ v < lvl g u acc ∧ e v + (16 * gLn g i + 1) = e u then some i else acc)
        by_cases hu : use i = true
        · have := h i v (by omega) hu ho
          by_cases c : v < lvl g u acc ∧ d v + (16 * gLn g i + 1) = d u
          · rw [if_pos ⟨hu, c⟩, if_pos ⟨hu, c.1, this.mp c.2⟩]
          · rw [if_neg (fun q => c q.2), if_neg (fun q => c ⟨q.2.1, this.mpr q.2.2⟩)]
        · rw [if_neg (fun q => hu q.1), if_neg (fun q => hu q.1)]
    rw [this]
    exact flr_congr h m (i + 1) _ (by omega)
theorem lvl_le {g : AN} (hg : gLinks g) {use : Nat → Bool} {d : Nat → Nat} {u : Nat} {acc : Option Nat} (h : flok g use d u acc) : lvl g u acc ≤ 9 := by
  cases acc with
  | none => exact Nat.le_refl 9
  | some j =>
    obtain ⟨hj, -, v, hv, -⟩ := h
    have := oe_lt ⟨(hg.2.2 j hj).1, (hg.2.2 j hj).2.1⟩ hv
    have := hg.1
    show (oe g j u).getD 9 ≤ 9
    rw [hv]
    show v ≤ 9
    omega
theorem C_first_b {g : AN} {U : Int32} {low high len far : Nat → Int32} {d : Nat → Nat} {u : Nat} (hg : gLinks g) (hr : CL low high len g) (hu : u < 9) (hE : E9 far d) (hd : ∀ x, d x ≤ 1048576) : ∀ (m i fuel : Nat) (acc : Option Nat), i + m = gK g → m < fuel → flok g (bt U) d u acc → f_X4_firstLinkFrom_b8 fuel (nI u) (enI (-1) acc) (nI (lvl g u acc)) (nI i) far U (nI (gK g)) low high len = some (enI (-1) (flr g (bt U) d u i m acc))
  | 0, i, fuel, acc, h1, h2, ha => by
    obtain ⟨n, rfl⟩ : ∃ n, fuel = n + 1 := ⟨fuel - 1, by omega⟩
    have hk := hg.2.1
    rw [f_X4_firstLinkFrom_b8, t_le (by omega) (by omega), if_pos (by omega)]
    rfl
  | m + 1, i, fuel, acc, h1, h2, ha => by
    obtain ⟨n, rfl⟩ : ∃ n, fuel = n + 1 := ⟨fuel - 1, by omega⟩
    have hk := hg.2.1
    have h9 := hg.1
    have hi : i < gK g := by omega
    have hl := hg.2.2 i hi
    have hlv := lvl_le hg ha
    have ih := C_first_b hg hr hu hE hd m (i + 1) n (fls g (bt U) d u acc i) (by omega) (by omega) (fls_ok hi ha)
    rw [f_X4_firstLinkFrom_b8, t_le (by omega) (by omega), if_neg (by omega), p_bit' U (by omega), b01_eq1, C_otherEnd hg hr hi (by omega), Option.bind_some, flr, ← ih]
    have dead : fls g (bt U) d u acc i = acc → f_X4_firstLinkFrom_b8 n (nI u) (enI (-1) acc) (nI (lvl g u acc)) (nI i + 1) far U (nI (gK g)) low high len = f_X4_firstLinkFrom_b8 n (nI u) (enI (-1) (fls g (bt U) d u acc i)) (nI (lvl g u (fls g (bt U) d u acc i))) (nI (i + 1)) far U (nI (gK g)) low high len := by
      intro e
      rw [e, nI_1]
    by_cases hb : bt U i = true
    · rw [if_pos hb]
      unfold f_X4_firstLinkFrom_b47
      cases ho : oe g i u with
      | none =>
        rw [if_pos (by rfl)]
        exact dead (by unfold fls; rw [ho])
      | some v =>
        have hv := oe_lt (n := gN g) ⟨hl.1, hl.2.1⟩ ho
        have dv := hd v
        have du := hd u
        show (if nI v = (-1 : Int32) then _ else _) = _
        rw [if_neg (n_ne (by omega) (by decide))]
        show (if nI (lvl g u acc) ≤ nI v then _ else _) = _
        rw [t_le (by omega) (by omega)]
        by_cases h3 : lvl g u acc ≤ v
        · rw [if_pos h3]
          exact dead (by unfold fls; rw [ho]; show (if _ then _ else _) = _; rw [if_neg (by omega)])
        · rw [if_neg h3]
          show (if inb (nI v) 9 = true then _ else _) = _
          rw [t_inb (by omega), if_pos (by omega), C_weight (by omega) hl.2.2 (hr i hi).2.2, Option.bind_some, t_inb (by omega), if_pos hu]
          show (if far (Int32.toNatClampNeg (nI v)) + nI (16 * gLn g i + 1) = far (Int32.toNatClampNeg (nI u)) then _ else _) = _
          rw [n_cl (by omega), n_cl (by omega), hE v (by omega), hE u hu, n_add, t_eq (by omega) (by omega)]
          by_cases h4 : d v + (16 * gLn g i + 1) = d u
          · rw [if_pos h4]
            have e : fls g (bt U) d u acc i = some i := by unfold fls; rw [ho]; show (if _ then _ else _) = _; rw [if_pos ⟨hb, by omega, h4⟩]
            rw [e, nI_1]
            have e2 : lvl g u (some i) = v := by show (oe g i u).getD 9 = v; rw [ho]; rfl
            rw [e2]
            rfl
          · rw [if_neg h4]
            exact dead (by unfold fls; rw [ho]; show (if _ then _ else _) = _; rw [if_neg (by omega)])
    · rw [if_neg hb]
      unfold f_X4_firstLinkFrom_b47
      rw [if_pos rfl]
      refine dead ?_
      unfold fls
      cases ho : oe g i u with
      | none => rfl
      | some v => show (if _ then _ else _) = _; rw [if_neg (fun q => hb q.1)]
/-- Ways.firstLinkFrom -/
theorem C_first {g : AN} {U : Int32} {low high len far : Nat → Int32} {d : Nat → Nat} {u : Nat} (hg : gLinks g) (hr : CL low high len g) (hu : u < 9) (hE : E9 far d) (hd : ∀ x, d x ≤ 1048576) : f_X4_firstLinkFrom (nI u) far U (nI (gK g)) low high len = some (enI (-1) (FL g (bt U) d u)) := C_first_b hg hr hu hE hd (gK g) 0 1000 none (by omega) (by have := hg.2.1; omega) trivial
theorem M_first_b {g : AN} {use : Nat → Bool} {w may least : Nat → Int32} {d : Nat → Nat} {u : Nat} (hg : gLinks g) (hw : RM w g) (hm : ∀ i, i < gK g → may i = b01 (use i)) (hu : u < 9) (hE : E9 least d) (hd : ∀ x, d x ≤ 1048576) : ∀ (m i fuel : Nat) (acc : Option Nat), i + m = gK g → m < fuel → flok g use d u acc → f_X6_firstLink_b5 fuel (nI u) (enI (-9) acc) (nI i) w may least = some (enI (-9) (flr g use d u i m acc))
  | 0, i, fuel, acc, h1, h2, ha => by
    obtain ⟨n, rfl⟩ : ∃ n, fuel = n + 1 := ⟨fuel - 1, by omega⟩
    have hk := hg.2.1
    rw [f_X6_firstLink_b5, c1, hw.2.1, t_le (by omega) (by omega), if_pos (by omega)]
    rfl
  | m + 1, i, fuel, acc, h1, h2, ha => by
    obtain ⟨n, rfl⟩ : ∃ n, fuel = n + 1 := ⟨fuel - 1, by omega⟩
    have hk := hg.2.1
    have h9 := hg.1
    have hi : i < gK g := by omega
    have hl := hg.2.2 i hi
    have hlv := lvl_le hg ha
    have ih := M_first_b hg hw hm hu hE hd m (i + 1) n (fls g use d u acc i) (by omega) (by omega) (fls_ok hi ha)
    obtain ⟨e1, e2, e3, -⟩ := hw.2.2.2 i hi
    rw [f_X6_firstLink_b5, c1, hw.2.1, t_le (by omega) (by omega), if_neg (by omega), M_otherEnd hg hw hi (by omega), Option.bind_some, t_inb (by omega), if_pos (by omega), n_cl (by omega), hm i hi, b01_eq0, flr, ← ih, nI_1]
    have dead : fls g use d u acc i = acc → f_X6_firstLink_b5 n (nI u) (enI (-9) acc) (nI (i + 1)) w may least = f_X6_firstLink_b5 n (nI u) (enI (-9) (fls g use d u acc i)) (nI (i + 1)) w may least := by
      intro e
      rw [e]
    by_cases hb : use i = true
    · rw [if_pos hb]
      cases ho : oe g i u with
      | none =>
        rw [if_pos (by rfl)]
        exact dead (by unfold fls; rw [ho])
      | some v =>
        have hv := oe_lt (n := gN g) ⟨hl.1, hl.2.1⟩ ho
        have dv := hd v
        have du := hd u
        show (if nI v = (-9 : Int32) then _ else _) = _
        rw [if_neg (n_ne (by omega) (by decide))]
        show (if inb (nI v) 9 = true then _ else _) = _
        rw [t_inb (by omega), if_pos (by omega), M_of2 (by omega), Option.bind_some, t_inb (by omega), if_pos hu, e3]
        show (if least (Int32.toNatClampNeg (nI v)) + (16 : Int32) * nI (gLn g i) + 1 = least (Int32.toNatClampNeg (nI u)) then _ else _) = _
        rw [n_cl (by omega), n_cl (by omega), hE v (by omega), hE u hu, l16, n_mul, n_add, nI_1, t_eq (by omega) (by omega)]
        by_cases h4 : d v + 16 * gLn g i + 1 = d u
        · rw [if_pos h4]
          cases acc with
          | none =>
            rw [if_pos (by rfl)]
            have e : fls g use d u none i = some i := by unfold fls; rw [ho]; show (if _ then _ else _) = _; rw [if_pos ⟨hb, by show v < 9; omega, by omega⟩]
            rw [e]
            rfl
          | some j =>
            obtain ⟨hj, -, vj, hvj, -⟩ := id ha
            have hvj2 := oe_lt (n := gN g) ⟨(hg.2.2 j hj).1, (hg.2.2 j hj).2.1⟩ hvj
            have elv : lvl g u (some j) = vj := by show (oe g j u).getD 9 = vj; rw [hvj]; rfl
            show (if nI j = (-9 : Int32) then _ else _) = _
            rw [if_neg (n_ne (by omega) (by decide))]
            show (f_X6_otherEnd (nI j) (nI u) w).bind _ = _
            rw [M_otherEnd hg hw hj (by omega), hvj, Option.bind_some]
            show (if nI vj ≤ nI v then _ else _) = _
            rw [t_le (by omega) (by omega)]
            by_cases h5 : vj ≤ v
            · rw [if_pos h5]
              exact dead (by unfold fls; rw [ho]; show (if _ then _ else _) = _; rw [if_neg (by rw [elv]; omega)])
            · rw [if_neg h5]
              have e : fls g use d u (some j) i = some i := by unfold fls; rw [ho]; show (if _ then _ else _) = _; rw [if_pos ⟨hb, by rw [elv]; omega, by omega⟩]
              rw [e]
              rfl
        · rw [if_neg h4]
          exact dead (by unfold fls; rw [ho]; show (if _ then _ else _) = _; rw [if_neg (by omega)])
    · rw [if_neg hb]
      refine dead ?_
      unfold fls
      cases ho : oe g i u with
      | none => rfl
      | some v => show (if _ then _ else _) = _; rw [if_neg (fun q => hb q.1)]
/-- Model.firstLink -/
theorem M_first {g : AN} {use : Nat → Bool} {w may least : Nat → Int32} {d : Nat → Nat} {u : Nat} (hg : gLinks g) (hw : RM w g) (hm : ∀ i, i < gK g → may i = b01 (use i)) (hu : u < 9) (hE : E9 least d) (hd : ∀ x, d x ≤ 1048576) : f_X6_firstLink (nI u) w may least = some (enI (-9) (FL g use d u)) := M_first_b hg hw hm hu hE hd (gK g) 0 1000 none (by omega) (by have := hg.2.1; omega) trivial
