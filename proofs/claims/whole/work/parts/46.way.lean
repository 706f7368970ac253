/-! distances, layTrue, way -/
theorem ps_congr {g : AN} {u1 u2 : Nat → Bool} (h : ∀ i, i < gK g → u1 i = u2 i) (d : Nat → Nat) : ∀ k, k ≤ gK g → ps g u1 d k = ps g u2 d k
  | 0, _ => rfl
  | k + 1, hk => by
    rw [ps, ps, ps_congr h d k (by omega)]
    unfold rx
    rw [h k (by omega)]
theorem its_congr {g : AN} {u1 u2 : Nat → Bool} (h : ∀ i, i < gK g → u1 i = u2 i) (d : Nat → Nat) : ∀ p, its g u1 d p = its g u2 d p
  | 0 => rfl
  | p + 1 => by rw [its, its, its_congr h d p, ps_congr h _ _ (Nat.le_refl _)]
theorem fls_congr {g : AN} {u1 u2 : Nat → Bool} {d : Nat → Nat} {u i : Nat} {acc : Option Nat} (h : u1 i = u2 i) : fls g u1 d u acc i = fls g u2 d u acc i := by
  unfold fls
  rw [h]
theorem flr_congrU {g : AN} {u1 u2 : Nat → Bool} {d : Nat → Nat} {u : Nat} (h : ∀ i, i < gK g → u1 i = u2 i) : ∀ (m i : Nat) (acc : Option Nat), i + m = gK g → flr g u1 d u i m acc = flr g u2 d u i m acc
  | 0, i, acc, _ => rfl
  | m + 1, i, acc, h1 => by
    rw [flr, flr, fls_congr (h i (by omega))]
    exact flr_congrU h m (i + 1) _ (by omega)
theorem FL_congrU {g : AN} {u1 u2 : Nat → Bool} {d : Nat → Nat} {u : Nat} (h : ∀ i, i < gK g → u1 i = u2 i) : FL g u1 d u = FL g u2 d u := flr_congrU h (gK g) 0 none (by omega)
/-- the distances to t along the usable links -/
def DD (g : AN) (use : Nat → Bool) (t : Nat) : Nat → Nat := its g use (st0 1000000 t) 9
theorem DD_congr {g : AN} {u1 u2 : Nat → Bool} (h : ∀ i, i < gK g → u1 i = u2 i) (t : Nat) : DD g u1 t = DD g u2 t := its_congr h _ 9
theorem dd_spec {g : AN} (hg : gLinks g) (use : Nat → Bool) {t : Nat} (ht : t < gN g) : Fix g use (DD g use t) ∧ Pred g use 1000000 t (DD g use t) ∧ (∀ x, DD g use t x = 1000000 ∨ DD g use t x ≤ 23490) ∧ (∀ x, DD g use t x < 1000000 → x < gN g) ∧ ∀ x, DD g use t x < 1000000 → DD g use t x % 16 ≤ 8 := by
  obtain ⟨F, f1, f2, f3, f4, f5, f6⟩ := bf_main (g := g) (use := use) (c := 1000000) hg.1 ht (by omega) (fun i hi => ⟨(hg.2.2 i hi).1, (hg.2.2 i hi).2.1⟩)
  have h9 := hg.1
  have e : DD g use t = F := f5 9 (by omega)
  rw [e]
  refine ⟨f1, f2, ?_, f4, fun x hx => ?_⟩
  · rw [← e]
    exact (its_cv (use := use) (fun i hi => (hg.2.2 i hi).2.2) hg.2.1 t 9 (by omega)).2
  · have h1 := f6 x hx
    have h2 := rnk_le (F := F) (f4 x hx)
    omega
theorem DD_le {g : AN} {use : Nat → Bool} {t x : Nat} : DD g use t x ≤ 1000000 := Nat.le_trans (its_le _ _ _ _ _) (st0_le _ _ _)
theorem cv_le (v : Nat) (h : v ≤ 1000000) : cv v ≤ 1048576 := by unfold cv; by_cases e : v = 1000000 <;> simp [e]; omega
theorem dd_tight {g : AN} (hg : gLinks g) {use : Nat → Bool} {t x : Nat} (ht : t < gN g) (hx : x ≠ t) (hr : DD g use t x < 1000000) : ∃ l v, FL g use (DD g use t) x = some l ∧ l < gK g ∧ use l = true ∧ oe g l x = some v ∧ v < gN g ∧ DD g use t v + (16 * gLn g l + 1) = DD g use t x := by
  obtain ⟨f1, f2, -⟩ := dd_spec hg use ht
  obtain ⟨i, hi, hu, h⟩ := f2.2 x hx hr
  have hf := f1 i hi hu
  have hl := hg.2.2 i hi
  have h9 := hg.1
  have key : ∃ v, oe g i x = some v ∧ v < 9 ∧ DD g use t v + (16 * gLn g i + 1) = DD g use t x := by
    rcases h with ⟨h1, h2⟩ | ⟨h1, h2⟩
    · refine ⟨gHi g i, by unfold oe; rw [if_pos h1.symm], by omega, ?_⟩
      rw [h1] at h2 ⊢
      omega
    · refine ⟨gLo g i, by unfold oe; rw [if_neg (by omega), if_pos h1.symm], by omega, ?_⟩
      rw [h1] at h2 ⊢
      omega
  obtain ⟨v, k1, k2, k3⟩ := key
  obtain ⟨z, hz⟩ := flr_found hu k2 k1 k3 (gK g) 0 none (by omega) (by omega)
  have ok := FL_ok g use (DD g use t) x
  have ez : FL g use (DD g use t) x = some z := hz
  rw [ez] at ok
  obtain ⟨o1, o2, v2, o3, o4⟩ := ok
  exact ⟨z, v2, ez, o1, o2, o3, oe_lt ⟨(hg.2.2 z o1).1, (hg.2.2 z o1).2.1⟩ o3, o4⟩
theorem cv_r {v : Nat} (h : v < 1000000) : cv v = v := by unfold cv; rw [if_neg (by omega)]
/-- the class's search, with its own word for far -/
theorem FL_cv {g : AN} (hg : gLinks g) {use : Nat → Bool} {t u : Nat} (ht : t < gN g) : FL g use (fun x => cv (DD g use t x)) u = if DD g use t u < 1000000 then FL g use (DD g use t) u else none := by
  obtain ⟨f1, f2, f3, -⟩ := dd_spec hg use ht
  by_cases hu : DD g use t u < 1000000
  · rw [if_pos hu]
    refine flr_congr (fun i v hi hs ho => ?_) (gK g) 0 none (by omega)
    show cv (DD g use t v) + _ = cv (DD g use t u) ↔ _
    rw [cv_r hu]
    have h1 := f3 u
    have h2 := f3 v
    unfold cv
    by_cases e : DD g use t v = 1000000
    · rw [if_pos e, e]; omega
    · rw [if_neg e]
  · rw [if_neg hu]
    have hu1 : DD g use t u = 1000000 := by have := DD_le (g := g) (use := use) (t := t) (x := u); omega
    cases hz : FL g use (fun x => cv (DD g use t x)) u with
    | none => rfl
    | some z =>
      exfalso
      have ok := FL_ok g use (fun x => cv (DD g use t x)) u
      rw [hz] at ok
      obtain ⟨o1, o2, v, o3, o4⟩ := ok
      have o5 : cv (DD g use t v) + (16 * gLn g z + 1) = cv (DD g use t u) := o4
      have hf := f1 z o1 o2
      have hl := hg.2.2 z o1
      have h2 := f3 v
      have hv : DD g use t u ≤ DD g use t v + (16 * gLn g z + 1) := by
        unfold oe at o3
        by_cases e1 : gLo g z = u
        · rw [if_pos e1] at o3; cases o3; rw [e1] at hf; exact hf.1
        · rw [if_neg e1] at o3
          by_cases e2 : gHi g z = u
          · rw [if_pos e2] at o3; cases o3; rw [e2] at hf; exact hf.2
          · rw [if_neg e2] at o3; cases o3
      have hv1 : DD g use t v = 1000000 := by omega
      rw [hu1, hv1] at o5
      have : cv 1000000 = 1048576 := rfl
      omega
/-- what measure leaves, in one word -/
theorem C_meas {g : AN} {U yu : Int32} {low high len far : Nat → Int32} {t : Nat} {use : Nat → Bool} (hg : gLinks g) (hr : CL low high len g) (ht : t < gN g) (hU : ∀ i, i < gK g → bt U i = use i) : ∃ far' : Nat → Int32, f_X4_measure U (nI t) far yu (nI (gN g)) (nI (gK g)) low high len = some (far', U) ∧ E9 far' (fun x => cv (DD g use t x)) := by
  obtain ⟨far', e, h⟩ := C_measure (U := U) (yu := yu) (far := far) hg hr ht
  refine ⟨far', e, ?_⟩
  have h1 := (its_cv (use := bt U) (fun i hi => (hg.2.2 i hi).2.2) hg.2.1 t 9 (by omega)).1
  rw [h1] at h
  have h2 : its g (bt U) (st0 1000000 t) 9 = DD g use t := its_congr hU _ 9
  rw [h2] at h
  exact h
theorem C_fl {g : AN} {U : Int32} {low high len far : Nat → Int32} {t u : Nat} {use : Nat → Bool} (hg : gLinks g) (hr : CL low high len g) (ht : t < gN g) (hu : u < 9) (hU : ∀ i, i < gK g → bt U i = use i) (hE : E9 far (fun x => cv (DD g use t x))) : f_X4_firstLinkFrom (nI u) far U (nI (gK g)) low high len = some (enI (-1) (if DD g use t u < 1000000 then FL g use (DD g use t) u else none)) := by
  rw [C_first hg hr hu hE (fun x => cv_le _ DD_le), FL_congrU hU, FL_cv hg ht]
/-! layTrue -/
def unl (g : AN) (wo : Option Nat) : Nat → Bool := fun i => gAl g i && !(wo == some i)
theorem M_true_b {g : AN} {w : Nat → Int32} {t : Nat} {wo : Option Nat} (hwo : ∀ j, wo = some j → j < 2147483648) (hg : gLinks g) (hw : RM w g) (ht : t < gN g) : ∀ (m i fuel : Nat) (may least : Nat → Int32), i + m = gK g → m < fuel → (∀ j, j < i → may j = b01 (unl g wo j)) → ∃ may' least' : Nat → Int32, f_X6_layTrue_b2 fuel (nI t) (enI (-9) wo) (nI i) w may least = some (may', least') ∧ (∀ j, j < gK g → may' j = b01 (unl g wo j)) ∧ E9 least' (DD g (unl g wo) t)
  | 0, i, fuel, may, least, h1, h2, h => by
    obtain ⟨n, rfl⟩ : ∃ n, fuel = n + 1 := ⟨fuel - 1, by omega⟩
    have hk := hg.2.1
    have h9 := hg.1
    have hi : i = gK g := by omega
    subst hi
    obtain ⟨least', e, hE⟩ := M_layLeast (least := least) (t := t) hg hw h (by omega)
    rw [f_X6_layTrue_b2, c1, hw.2.1, t_le (by omega) (by omega), if_pos (by omega), e]
    exact ⟨may, least', rfl, h, hE⟩
  | m + 1, i, fuel, may, least, h1, h2, h => by
    obtain ⟨n, rfl⟩ : ∃ n, fuel = n + 1 := ⟨fuel - 1, by omega⟩
    have hk := hg.2.1
    have hi : i < gK g := by omega
    obtain ⟨-, -, -, e4, -⟩ := hw.2.2.2 i hi
    rw [f_X6_layTrue_b2, c1, hw.2.1, t_le (by omega) (by omega), if_neg (by omega), M_of3 (by omega), Option.bind_some, e4, b01_eq1, nI_1, n_cl (by omega)]
    have go : ∀ b : Bool, b = unl g wo i → ∃ may' least' : Nat → Int32, f_X6_layTrue_b2 n (nI t) (enI (-9) wo) (nI (i + 1)) w (upd may i (b01 b)) least = some (may', least') ∧ (∀ j, j < gK g → may' j = b01 (unl g wo j)) ∧ E9 least' (DD g (unl g wo) t) := by
      intro b hb
      refine M_true_b hwo hg hw ht m (i + 1) n _ least (by omega) (by omega) (fun j hj => ?_)
      rw [upd_at]
      by_cases e : j = i
      · rw [if_pos e, hb, e]
      · rw [if_neg e]; exact h j (by omega)
    have hin : ∀ {α : Type} {x y : α}, (if inb (nI i) 18 = true then x else y) = x := fun {α x y} => by rw [t_inb (by omega), if_pos (by omega)]
    by_cases ha : gAl g i = true
    · rw [if_pos ha]
      cases wo with
      | none =>
        rw [if_neg (show ¬ nI i = enI (-9) none from n_ne (by omega) (by decide)), hin]
        exact go true (by simp [unl, ha])
      | some j =>
        have hj := hwo j rfl
        show ∃ may' least' : Nat → Int32, (if nI i = nI j then _ else _) = _ ∧ _
        rw [t_eq (by omega) (by omega)]
        by_cases e : i = j
        · rw [if_pos e, hin]
          exact go false (by simp [unl, ha, e])
        · rw [if_neg e, hin]
          exact go true (by simp [unl, ha, Ne.symm e])
    · rw [if_neg ha, hin]
      exact go false (by simp [unl, ha])
/-- Model.layTrue -/
theorem M_layTrue {g : AN} {w may least : Nat → Int32} {t : Nat} (wo : Option Nat) (hwo : ∀ j, wo = some j → j < 2147483648) (hg : gLinks g) (hw : RM w g) (ht : t < gN g) : ∃ may' least' : Nat → Int32, f_X6_layTrue (nI t) (enI (-9) wo) w may least = some (may', least') ∧ (∀ j, j < gK g → may' j = b01 (unl g wo j)) ∧ E9 least' (DD g (unl g wo) t) := M_true_b hwo hg hw ht (gK g) 0 1000 may least (by omega) (by have := hg.2.1; omega) (fun j hj => by omega)
/-! way -/
theorem way_both {g : AN} {U : Int32} {low high len far w may least : Nat → Int32} {t : Nat} {use : Nat → Bool} (hg : gLinks g) (hr : CL low high len g) (hw : RM w g) (ht : t < gN g) (hU : ∀ i, i < gK g → bt U i = use i) (hm : ∀ i, i < gK g → may i = b01 (use i)) (hE : E9 far (fun x => cv (DD g use t x))) (hL : E9 least (DD g use t)) {k : Nat} (hk8 : k ≤ 8) : ∀ (m j f1 f2 x : Nat), j + m = k → m < f1 → m < f2 → DD g use t x < 1000000 → m ≤ DD g use t x % 16 → ∃ y, y < gN g ∧ f_X4_nodeAfter_b5 f1 (nI k) (nI x) (nI j) far U (nI (gK g)) low high len = some (nI y) ∧ f_X6_way_b98 f2 (nI k) (nI x) (nI j) w may least = some (nI y, may, least)
  | 0, j, f1, f2, x, h1, h2, h3, hx, hm16 => by
    obtain ⟨n1, rfl⟩ : ∃ n, f1 = n + 1 := ⟨f1 - 1, by omega⟩
    obtain ⟨n2, rfl⟩ : ∃ n, f2 = n + 1 := ⟨f2 - 1, by omega⟩
    refine ⟨x, (dd_spec hg use ht).2.2.2.1 x hx, ?_, ?_⟩
    · rw [f_X4_nodeAfter_b5, t_le (by omega) (by omega), if_pos (by omega)]
    · rw [f_X6_way_b98, t_le (by omega) (by omega), if_pos (by omega)]
  | m + 1, j, f1, f2, x, h1, h2, h3, hx, hm16 => by
    obtain ⟨n1, rfl⟩ : ∃ n, f1 = n + 1 := ⟨f1 - 1, by omega⟩
    obtain ⟨n2, rfl⟩ : ∃ n, f2 = n + 1 := ⟨f2 - 1, by omega⟩
    have h9 := hg.1
    have hk := hg.2.1
    have hxt : x ≠ t := fun e => by
      have := (dd_spec hg use ht).2.1.1
      rw [e, this] at hm16
      omega
    have hxN := (dd_spec hg use ht).2.2.2.1 x hx
    obtain ⟨l, v, q1, q2, q3, q4, q5, q6⟩ := dd_tight hg ht hxt hx
    obtain ⟨y, y1, y2, y3⟩ := way_both hg hr hw ht hU hm hE hL hk8 m (j + 1) n1 n2 v (by omega) (by omega) (by omega) (by omega) (by omega)
    refine ⟨y, y1, ?_, ?_⟩
    · rw [f_X4_nodeAfter_b5, t_le (by omega) (by omega), if_neg (by omega), l9, t_le (by omega) (by omega), if_neg (by omega), C_fl hg hr ht (by omega) hU hE, if_pos hx, q1, Option.bind_some]
      show (if nI l = (-1 : Int32) then _ else _) = _
      rw [if_neg (n_ne (by omega) (by decide))]
      show (f_X1_otherEnd (nI l) (nI x) low high).bind _ = _
      rw [C_otherEnd hg hr q2 (by omega), q4, Option.bind_some, nI_1]
      exact y2
    · rw [f_X6_way_b98, t_le (by omega) (by omega), if_neg (by omega), M_first hg hw hm (by omega) hL (fun x => Nat.le_trans DD_le (by omega)), q1, Option.bind_some]
      show (f_X6_otherEnd (nI l) (nI x) w).bind _ = _
      rw [M_otherEnd hg hw q2 (by omega), q4, Option.bind_some, nI_1]
      exact y3
theorem RC.cl {v : NV} {g : AN} (h : RC v g) : CL v.2.2.2.2.2.1 v.2.2.2.2.2.2.1 v.2.2.2.2.2.2.2 g := h.2.2.2.2.2
theorem unl_none (g : AN) (i : Nat) : unl g none i = gAl g i := by simp [unl]
theorem i_neg {p : Int32} (h : p < 0) : p.toInt < 0 := by rw [i_lt] at h; exact h
