/-! parts -/
def allF (d : Nat → Nat) : Nat → Bool
  | 0 => true
  | k + 1 => allF d k && decide (d k = 1000000)
theorem allF_iff (d : Nat → Nat) : ∀ k, allF d k = true ↔ ∀ v, v < k → d v = 1000000
  | 0 => ⟨fun _ v hv => absurd hv (Nat.not_lt_zero _), fun _ => rfl⟩
  | k + 1 => by
    rw [allF, Bool.and_eq_true, allF_iff d k, decide_eq_true_iff]
    constructor
    · rintro ⟨h1, h2⟩ v hv
      by_cases e : v = k
      · rw [e]; exact h2
      · exact h1 v (by omega)
    · intro h
      exact ⟨fun v hv => h v (by omega), h k (by omega)⟩
def pF (g : AN) (u : Nat) : Bool := allF (DD g (gAl g) u) u
theorem M_parts_i {d : Nat → Nat} {w may least : Nat → Int32} {u a : Nat} (hu : u ≤ 9) (hE : E9 least d) (hd : ∀ x, d x ≤ 1000000) (K : Int32 → Int32 → (Nat → Int32) → (Nat → Int32) → (Nat → Int32) → Option (Int32 × (Nat → Int32) × (Nat → Int32))) : ∀ (m v fuel : Nat), v + m = u → m < fuel → f_X6_parts_b26 K fuel (nI a) (nI u) (b01 (allF d v)) (nI v) w may least = K (nI (a + (if allF d u = true then 1 else 0))) (nI (u + 1)) w may least
  | 0, v, fuel, h1, h2 => by
    obtain ⟨n, rfl⟩ : ∃ n, fuel = n + 1 := ⟨fuel - 1, by omega⟩
    have hv : v = u := by omega
    rw [f_X6_parts_b26, t_le (by omega) (by omega), if_pos (by omega), b01_eq0, n_add0, nI_1, nI_1, hv]
    by_cases e : allF d u = true
    · rw [if_pos e, if_pos e]
    · rw [if_neg e, if_neg e]; rfl
  | m + 1, v, fuel, h1, h2 => by
    obtain ⟨n, rfl⟩ : ∃ n, fuel = n + 1 := ⟨fuel - 1, by omega⟩
    have ih := M_parts_i (a := a) (w := w) (may := may) hu hE hd K m (v + 1) n (by omega) (by omega)
    have hdv := hd v
    rw [f_X6_parts_b26, t_le (by omega) (by omega), if_neg (by omega), t_inb (by omega), if_pos (show v < 9 by omega), n_cl (by omega), hE v (by omega), lfar, t_eq (by omega) (by omega), nI_1]
    rw [allF] at ih
    by_cases e : d v = 1000000
    · rw [if_pos e]
      rw [decide_eq_true e, Bool.and_true] at ih
      rw [show b01 (allF d v) &&& 1 = b01 (allF d v) by cases allF d v <;> decide]
      exact ih
    · rw [if_neg e]
      rw [decide_eq_false e, Bool.and_false] at ih
      rw [show b01 (allF d v) &&& 0 = b01 false by cases allF d v <;> decide]
      exact ih
theorem M_parts_b {g : AN} {w : Nat → Int32} (hg : gLinks g) (hw : RM w g) : ∀ (m u fuel : Nat) (may least : Nat → Int32), u + m = gN g → m < fuel → ∃ may' least' : Nat → Int32, f_X6_parts_b4 fuel (nI (q_cnt (pF g) u)) (nI u) w may least = some (nI (q_cnt (pF g) (gN g)), may', least')
  | 0, u, fuel, may, least, h1, h2 => by
    obtain ⟨n, rfl⟩ : ∃ n, fuel = n + 1 := ⟨fuel - 1, by omega⟩
    have h9 := hg.1
    have hu : u = gN g := by omega
    rw [f_X6_parts_b4, c0, hw.1, t_le (by omega) (by omega), if_pos (by omega), hu]
    exact ⟨_, _, rfl⟩
  | m + 1, u, fuel, may, least, h1, h2 => by
    obtain ⟨n, rfl⟩ : ∃ n, fuel = n + 1 := ⟨fuel - 1, by omega⟩
    have h9 := hg.1
    obtain ⟨may1, least1, n1, n2, n3⟩ := M_true (may := may) (least := least) hg hw (show u < gN g by omega)
    rw [f_X6_parts_b4, c0, hw.1, t_le (by omega) (by omega), if_neg (by omega), n1, Option.bind_some]
    have e := M_parts_i (w := w) (may := may1) (a := q_cnt (pF g) u) (show u ≤ 9 by omega) n3 (fun x => DD_le) (f_X6_parts_b4 n) u 0 1000 (by omega) (by omega)
    dsimp only
    rw [show f_X6_parts_b26 (f_X6_parts_b4 n) 1000 (nI (q_cnt (pF g) u)) (nI u) 1 0 w may1 least1 = _ from e]
    exact M_parts_b hg hw m (u + 1) n may1 least1 (by omega) (by omega)
theorem M_parts {g : AN} {w : Nat → Int32} (hg : gLinks g) (hw : RM w g) (may least : Nat → Int32) : ∃ may' least' : Nat → Int32, f_X6_parts w may least = some (nI (q_cnt (pF g) (gN g)), may', least') := M_parts_b hg hw (gN g) 0 1000 may least (by omega) (by have := hg.1; omega)
theorem pF_iff {g : AN} (hg : gLinks g) {u : Nat} (hu : u < gN g) : pF g u = true ↔ ¬ ∃ v, v < u ∧ DD g (gAl g) v u < 1000000 := by
  unfold pF
  rw [allF_iff]
  constructor
  · rintro h ⟨v, hv, q⟩
    have a := dd_sym hg (show v < gN g by omega) q
    have b := h v hv
    omega
  · intro h v hv
    have a := DD_le (g := g) (use := gAl g) (t := u) (x := v)
    refine Classical.byContradiction fun q => h ⟨v, hv, dd_sym hg hu (by omega)⟩
theorem C_parts_b {g : AN} {A : Int32} {low high len : Nat → Int32} (hg : gLinks g) (hr : CL low high len g) (hA : ∀ i, i < gK g → bt A i = gAl g i) : ∀ (m u fuel : Nat) (X : Int32), u + m = gN g → m < fuel → (∀ x, x < 32 → (bt X x = true ↔ ∃ v, v < u ∧ DD g (gAl g) v x < 1000000)) → f_X1_countParts_b6 fuel (nI (q_cnt (pF g) u)) X (nI u) (nI (gN g)) (nI (gK g)) A low high = some (nI (q_cnt (pF g) (gN g)))
  | 0, u, fuel, X, h1, h2, h => by
    obtain ⟨n, rfl⟩ : ∃ n, fuel = n + 1 := ⟨fuel - 1, by omega⟩
    have h9 := hg.1
    have hu : u = gN g := by omega
    rw [f_X1_countParts_b6, t_le (by omega) (by omega), if_pos (by omega), hu]
  | m + 1, u, fuel, X, h1, h2, h => by
    obtain ⟨n, rfl⟩ : ∃ n, fuel = n + 1 := ⟨fuel - 1, by omega⟩
    have h9 := hg.1
    have hu : u < gN g := by omega
    obtain ⟨R, r1, r2⟩ := C_reach hg hr hA hu
    have hp := pF_iff hg hu
    rw [f_X1_countParts_b6, t_le (by omega) (by omega), if_neg (by omega), p_bit' X (by omega), b01_eq0, r1, Option.bind_some, nI_1, nI_1]
    by_cases e : bt X u = true
    · have nf : ¬ pF g u = true := fun q => hp.mp q ((h u (by omega)).mp e)
      rw [if_pos e]
      have ih := C_parts_b hg hr hA m (u + 1) n X (by omega) (by omega) (fun x hx => by
        rw [h x hx]
        constructor
        · rintro ⟨v, v1, v2⟩; exact ⟨v, by omega, v2⟩
        · rintro ⟨v, v1, v2⟩
          by_cases q : v = u
          · subst q
            obtain ⟨v', w1, w2⟩ := (h v (by omega)).mp e
            exact ⟨v', w1, dd_trans hg (by omega) hu w2 v2⟩
          · exact ⟨v, by omega, v2⟩)
      rw [q_cnt, if_neg nf] at ih
      exact ih
    · have yf : pF g u = true := hp.mpr (fun q => e ((h u (by omega)).mpr q))
      rw [if_neg e]
      have ih := C_parts_b hg hr hA m (u + 1) n (X ||| R) (by omega) (by omega) (fun x hx => by
        rw [b_or, r2 x hx, Bool.or_eq_true, h x hx, decide_eq_true_iff]
        constructor
        · rintro (⟨v, v1, v2⟩ | q)
          · exact ⟨v, by omega, v2⟩
          · exact ⟨u, by omega, q⟩
        · rintro ⟨v, v1, v2⟩
          by_cases q : v = u
          · subst q; exact Or.inr v2
          · exact Or.inl ⟨v, by omega, v2⟩)
      rw [q_cnt, if_pos yf] at ih
      exact ih
theorem C_parts {g : AN} {A : Int32} {low high len : Nat → Int32} (hg : gLinks g) (hr : CL low high len g) (hA : ∀ i, i < gK g → bt A i = gAl g i) : f_X1_countParts (nI (gN g)) (nI (gK g)) A low high = some (nI (q_cnt (pF g) (gN g))) := C_parts_b hg hr hA (gN g) 0 1000 0 (by omega) (by have := hg.1; omega) (fun x hx => by
  rw [b_0]
  exact ⟨fun q => (by cases q), fun ⟨v, hv, _⟩ => absurd hv (Nat.not_lt_zero _)⟩)
/-! pairs -/
def prs (g : AN) (use : Nat → Bool) (t : Nat) : Nat := q_cnt (fun s => !decide (s = t) && decide (DD g use t s < 1000000)) (gN g)
theorem q_cnt_but {f : Nat → Bool} {t : Nat} (ht : f t = true) : ∀ k, q_cnt f k = q_cnt (fun s => !decide (s = t) && f s) k + (if t < k then 1 else 0)
  | 0 => rfl
  | k + 1 => by
    rw [q_cnt, q_cnt, q_cnt_but ht k]
    by_cases e : k = t
    · subst e
      rw [if_pos ht, if_neg (Nat.lt_irrefl _), if_neg (by simp), if_pos (Nat.lt_succ_self _)]
    · have e2 : (!decide (k = t) && f k) = f k := by simp [e]
      rw [e2]
      by_cases h : t < k
      · rw [if_pos h, if_pos (show t < k + 1 by omega)]; omega
      · rw [if_neg h, if_neg (show ¬ t < k + 1 by omega)]; omega
theorem C_pairs_b {g : AN} {U : Int32} {use : Nat → Bool} {low high len : Nat → Int32} (hg : gLinks g) (hr : CL low high len g) (hU : ∀ i, i < gK g → bt U i = use i) : ∀ (m u fuel : Nat), u + m = gN g → m < fuel → f_X1_pairsJoined_b4 fuel U (nI (sm (prs g use) u)) (nI u) (nI (gN g)) (nI (gK g)) low high = some (nI (sm (prs g use) (gN g)))
  | 0, u, fuel, h1, h2 => by
    obtain ⟨n, rfl⟩ : ∃ n, fuel = n + 1 := ⟨fuel - 1, by omega⟩
    have h9 := hg.1
    have hu : u = gN g := by omega
    rw [f_X1_pairsJoined_b4, t_le (by omega) (by omega), if_pos (by omega), hu]
  | m + 1, u, fuel, h1, h2 => by
    obtain ⟨n, rfl⟩ : ∃ n, fuel = n + 1 := ⟨fuel - 1, by omega⟩
    have h9 := hg.1
    have hu : u < gN g := by omega
    obtain ⟨R, r1, r2⟩ := C_reach hg hr hU hu
    have hm : Msk R (gN g) (fun x => decide (DD g use u x < 1000000)) := by
      intro x hx
      rw [r2 x hx]
      by_cases c : x < gN g
      · rw [decide_eq_true c, Bool.true_and]
      · rw [decide_eq_false c, Bool.false_and, decide_eq_false (fun q => c ((dd_spec hg use hu).2.2.2.1 x q))]
    have hb := p_bc (show gN g ≤ 18 by omega) hm
    have hc := q_cnt_but (f := fun x => decide (DD g use u x < 1000000)) (t := u) (by rw [dd_zero hg hu]; decide) (gN g)
    rw [if_pos hu] at hc
    rw [f_X1_pairsJoined_b4, t_le (by omega) (by omega), if_neg (by omega), r1, Option.bind_some, hb, hc, l1, n_sub (by omega), n_add, n_add]
    exact C_pairs_b hg hr hU m (u + 1) n (by omega) (by omega)
theorem C_pairs {g : AN} {U : Int32} {use : Nat → Bool} {low high len : Nat → Int32} (hg : gLinks g) (hr : CL low high len g) (hU : ∀ i, i < gK g → bt U i = use i) : f_X1_pairsJoined U (nI (gN g)) (nI (gK g)) low high = some (nI (sm (prs g use) (gN g))) := C_pairs_b hg hr hU (gN g) 0 1000 (by omega) (by have := hg.1; omega)
theorem M_pairs_i {g : AN} {use : Nat → Bool} {w may least : Nat → Int32} {t : Nat} {x1 : Int32} (hn : gN g ≤ 9) (hw : RM w g) (ht : t < gN g) (hE : E9 least (DD g use t)) (K : Int32 → Int32 → Int32 → (Nat → Int32) → (Nat → Int32) → (Nat → Int32) → Option (Int32 × (Nat → Int32) × (Nat → Int32))) : ∀ (m s fuel a : Nat), s + m = gN g → m < fuel → f_X6_pairsWith_b23 K fuel x1 (nI (a + q_cnt (fun s => !decide (s = t) && decide (DD g use t s < 1000000)) s)) (nI t) (nI s) w may least = K x1 (nI (a + prs g use t)) (nI (t + 1)) w may least
  | 0, s, fuel, a, h1, h2 => by
    obtain ⟨n, rfl⟩ : ∃ n, fuel = n + 1 := ⟨fuel - 1, by omega⟩
    have hs : s = gN g := by omega
    rw [f_X6_pairsWith_b23, c0, hw.1, t_le (by omega) (by omega), if_pos (by omega), hs, nI_1]
    rfl
  | m + 1, s, fuel, a, h1, h2 => by
    obtain ⟨n, rfl⟩ : ∃ n, fuel = n + 1 := ⟨fuel - 1, by omega⟩
    have ih := M_pairs_i (x1 := x1) (may := may) hn hw ht hE K m (s + 1) n a (by omega) (by omega)
    have hd := DD_le (g := g) (use := use) (t := t) (x := s)
    rw [f_X6_pairsWith_b23, c0, hw.1, t_le (by omega) (by omega), if_neg (by omega), t_eq (by omega) (by omega), t_inb (by omega), if_pos (show s < 9 by omega), n_cl (by omega), hE s (by omega), lfar, t_le (by omega) (by omega), n_add0, nI_1, nI_1]
    rw [q_cnt] at ih
    by_cases e : s = t
    · rw [if_pos e]
      rw [if_neg (by simp [e])] at ih
      exact ih
    · rw [if_neg e]
      by_cases c : DD g use t s < 1000000
      · rw [if_neg (by omega)]
        rw [if_pos (by simp [e, c])] at ih
        exact ih
      · rw [if_pos (by omega)]
        rw [if_neg (by simp [c])] at ih
        exact ih
theorem M_pairs_b {g : AN} {w : Nat → Int32} {wo : Option Nat} (hwo : ∀ j, wo = some j → j < 2147483648) (hg : gLinks g) (hw : RM w g) : ∀ (m t fuel : Nat) (may least : Nat → Int32), t + m = gN g → m < fuel → ∃ may' least' : Nat → Int32, f_X6_pairsWith_b4 fuel (enI (-9) wo) (nI (sm (prs g (unl g wo)) t)) (nI t) w may least = some (nI (sm (prs g (unl g wo)) (gN g)), may', least')
  | 0, t, fuel, may, least, h1, h2 => by
    obtain ⟨n, rfl⟩ : ∃ n, fuel = n + 1 := ⟨fuel - 1, by omega⟩
    have h9 := hg.1
    have ht : t = gN g := by omega
    rw [f_X6_pairsWith_b4, c0, hw.1, t_le (by omega) (by omega), if_pos (by omega), ht]
    exact ⟨_, _, rfl⟩
  | m + 1, t, fuel, may, least, h1, h2 => by
    obtain ⟨n, rfl⟩ : ∃ n, fuel = n + 1 := ⟨fuel - 1, by omega⟩
    have h9 := hg.1
    have ht : t < gN g := by omega
    obtain ⟨may1, least1, n1, n2, n3⟩ := M_layTrue (may := may) (least := least) wo hwo hg hw ht
    rw [f_X6_pairsWith_b4, c0, hw.1, t_le (by omega) (by omega), if_neg (by omega), n1, Option.bind_some]
    dsimp only
    have e := M_pairs_i (w := w) (may := may1) (x1 := enI (-9) wo) hg.1 hw ht n3 (f_X6_pairsWith_b4 n) (gN g) 0 1000 (sm (prs g (unl g wo)) t) (by omega) (by omega)
    rw [show f_X6_pairsWith_b23 (f_X6_pairsWith_b4 n) 1000 (enI (-9) wo) (nI (sm (prs g (unl g wo)) t)) (nI t) 0 w may1 least1 = _ from e]
    exact M_pairs_b hwo hg hw m (t + 1) n may1 least1 (by omega) (by omega)
theorem M_pairs {g : AN} {w : Nat → Int32} {wo : Option Nat} (hwo : ∀ j, wo = some j → j < 2147483648) (hg : gLinks g) (hw : RM w g) (may least : Nat → Int32) : ∃ may' least' : Nat → Int32, f_X6_pairsWith (enI (-9) wo) w may least = some (nI (sm (prs g (unl g wo)) (gN g)), may', least') := M_pairs_b hwo hg hw (gN g) 0 1000 may least (by omega) (by have := hg.1; omega)
/-! told, link, between -/
theorem S_told {g : AN} {A I und size : Int32} {low high len w : Nat → Int32} (hg : gLinks g) (hr : CL low high len g) (hA : Msk A (gK g) (gAl g)) (hI : Msk I (gK g) (gMp g)) (hw : RM w g) (p1 : Int32) (may least : Nat → Int32) : ∃ (r : Int32) (may' least' : Nat → Int32), f_X5_told p1 und (nI (gN g)) (nI (gK g)) (nI (gR g)) A I low high size = some r ∧ f_X6_told p1 w und size may least = some (r, may', least') := by
  have hk := hg.2.1
  have e2 := M_count (c := 3) (f := gAl g) hk hw (by omega) (fun i hi => (hw.2.2.2 i hi).2.2.2.1)
  have e3 := M_count (c := 4) (f := gMp g) hk hw (by omega) (fun i hi => (hw.2.2.2 i hi).2.2.2.2)
  have e4 := M_wrong hk hw
  obtain ⟨may1, least1, e8⟩ := M_parts hg hw may least
  unfold f_X5_told f_X6_told f_X1_countWrongInMap
  rw [p_bc hk hA, p_bc hk hI, p_bc hk (hA.xor hI), C_parts hg hr (fun i hi => hA.at hk hi), show f_X6_count 3 1 w = _ from e2, show f_X6_count 4 1 w = _ from e3, e4, e8, c0, c1, c2, hw.1, hw.2.1, hw.2.2.1]
  simp only [Option.bind_some]
  by_cases q : p1 = 0
  · rw [if_pos q, if_pos q]; exact ⟨_, _, _, rfl, rfl⟩
  rw [if_neg q, if_neg q]
  by_cases q : p1 = 1
  · rw [if_pos q, if_pos q]; exact ⟨_, _, _, rfl, rfl⟩
  rw [if_neg q, if_neg q]
  by_cases q : p1 = 2
  · rw [if_pos q, if_pos q]; exact ⟨_, _, _, rfl, rfl⟩
  rw [if_neg q, if_neg q]
  by_cases q : p1 = 3
  · rw [if_pos q, if_pos q]; exact ⟨_, _, _, rfl, rfl⟩
  rw [if_neg q, if_neg q]
  by_cases q : p1 = 4
  · rw [if_pos q, if_pos q]; exact ⟨_, _, _, rfl, rfl⟩
  rw [if_neg q, if_neg q]
  by_cases q : p1 = 5
  · rw [if_pos q, if_pos q]; exact ⟨_, _, _, rfl, rfl⟩
  rw [if_neg q, if_neg q]
  by_cases q : p1 = 6
  · rw [if_pos q, if_pos q]; exact ⟨_, _, _, rfl, rfl⟩
  rw [if_neg q, if_neg q]
  by_cases q : p1 = 7
  · rw [if_pos q, if_pos q]; exact ⟨_, _, _, rfl, rfl⟩
  rw [if_neg q, if_neg q]
  by_cases q : p1 = 8
  · rw [if_pos q, if_pos q]; exact ⟨_, _, _, rfl, rfl⟩
  rw [if_neg q, if_neg q]
  exact ⟨_, _, _, rfl, rfl⟩
theorem S_link {g : AN} {A I : Int32} {low high len w : Nat → Int32} (hg : gLinks g) (hr : CL low high len g) (hA : Msk A (gK g) (gAl g)) (hI : Msk I (gK g) (gMp g)) (hw : RM w g) (p1 p2 : Int32) (may least : Nat → Int32) : ∃ (r : Int32) (may' least' : Nat → Int32), f_X5_link p1 p2 (nI (gN g)) (nI (gK g)) A I low high len = some r ∧ f_X6_link p1 p2 w may least = some (r, may', least') := by
  have hk := hg.2.1
  unfold f_X5_link f_X6_link
  rcases chk_link hk hw p1 with ⟨e1, e2⟩ | ⟨i, hi, rfl, e1, e2⟩
  · rw [e1, e2, if_pos rfl, Option.bind_some, if_pos rfl]; exact ⟨_, _, _, rfl, rfl⟩
  rw [e1, e2, if_neg ne10, Option.bind_some, if_neg ne10]
  obtain ⟨w0, w1, w2, w3, w4⟩ := hw.2.2.2 i hi
  obtain ⟨a0, a1, a2⟩ := hr i hi
  rcases chk_in p2 (a := 0) (b := 5) (by omega) (by omega) with ⟨e, c⟩ | ⟨x, -, hx, rfl, e⟩
  · rw [show f_X6_isIn p2 0 5 = 0 from e, if_pos (show (0 : Int32) = 0 from rfl)]
    have no : ∀ z : Nat, z ≤ 5 → ¬ p2 = nI z := by
      intro z hz q
      subst q
      rcases c with c | c
      · rw [n_lt (by omega) (by omega)] at c; omega
      · rw [n_lt (by omega) (by omega)] at c; omega
    rw [if_neg (show ¬ p2 = (0 : Int32) from no 0 (by omega)), if_neg (show ¬ p2 = (1 : Int32) from no 1 (by omega)), if_neg (show ¬ p2 = (2 : Int32) from no 2 (by omega)), if_neg (show ¬ p2 = (3 : Int32) from no 3 (by omega)), if_neg (show ¬ p2 = (4 : Int32) from no 4 (by omega)), if_neg (show ¬ p2 = (5 : Int32) from no 5 (by omega))]
    exact ⟨_, _, _, rfl, rfl⟩
  · rw [show f_X6_isIn (nI x) 0 5 = 1 from e, if_neg ne10, l5, t_le (by omega) (by omega)]
    have hin : ∀ {α : Type} {x y : α}, (if inb (nI i) 18 = true then x else y) = x := fun {α x y} => by rw [t_inb (by omega), if_pos (by omega)]
    simp only [hin]
    rw [n_cl (by omega), a0, a1, a2, p_bit' A (by omega), p_bit' I (by omega), hA.at hk hi, hI.at hk hi]
    rcases Nat.lt_or_ge x 1 with c | c
    · have : x = 0 := by omega
      subst this
      rw [if_pos (show nI 0 = (0 : Int32) from rfl), if_neg (by omega), M_of (by omega) (by omega), Option.bind_some, show 3 + 0 + 5 * i = 3 + 5 * i by omega, w0]; exact ⟨_, _, _, rfl, rfl⟩
    rw [if_neg (show ¬ nI x = (0 : Int32) by rw [l0, n_eq (by omega) (by omega)]; omega)]
    rcases Nat.lt_or_ge x 2 with c | c
    · have : x = 1 := by omega
      subst this
      rw [if_pos (show nI 1 = (1 : Int32) from rfl), if_neg (by omega), M_of (by omega) (by omega), Option.bind_some, show 3 + 1 + 5 * i = 4 + 5 * i by omega, w1]; exact ⟨_, _, _, rfl, rfl⟩
    rw [if_neg (show ¬ nI x = (1 : Int32) by rw [l1, n_eq (by omega) (by omega)]; omega)]
    rcases Nat.lt_or_ge x 3 with c | c
    · have : x = 2 := by omega
      subst this
      rw [if_pos (show nI 2 = (2 : Int32) from rfl), if_neg (by omega), M_of (by omega) (by omega), Option.bind_some, show 3 + 2 + 5 * i = 5 + 5 * i by omega, w2]; exact ⟨_, _, _, rfl, rfl⟩
    rw [if_neg (show ¬ nI x = (2 : Int32) by rw [l2, n_eq (by omega) (by omega)]; omega)]
    rcases Nat.lt_or_ge x 4 with c | c
    · have : x = 3 := by omega
      subst this
      rw [if_pos (show nI 3 = (3 : Int32) from rfl), if_neg (by omega), M_of (by omega) (by omega), Option.bind_some, show 3 + 3 + 5 * i = 6 + 5 * i by omega, w3]; exact ⟨_, _, _, rfl, rfl⟩
    rw [if_neg (show ¬ nI x = (3 : Int32) by rw [l3, n_eq (by omega) (by omega)]; omega)]
    rcases Nat.lt_or_ge x 5 with c | c
    · have : x = 4 := by omega
      subst this
      rw [if_pos (show nI 4 = (4 : Int32) from rfl), if_neg (by omega), M_of (by omega) (by omega), Option.bind_some, show 3 + 4 + 5 * i = 7 + 5 * i by omega, w4]; exact ⟨_, _, _, rfl, rfl⟩
    rw [if_neg (show ¬ nI x = (4 : Int32) by rw [l4, n_eq (by omega) (by omega)]; omega)]
    have : x = 5 := by omega
    subst this
    have u1 := C_pairs (use := unl g none) hg hr (U := A) (fun j hj => by rw [hA.at hk hj, unl_none])
    have u2 := C_pairs (use := unl g (some i)) hg hr (U := f_X5_withBit A (nI i) 0) (fun j hj => by
      rw [p_with0 A (by omega) (by omega), hA.at hk hj]
      unfold unl
      by_cases q : j = i
      · subst q; simp
      · rw [if_neg q]; simp [Ne.symm q])
    obtain ⟨may1, least1, v1⟩ := M_pairs (wo := none) (fun j h => by cases h) hg hw may least
    obtain ⟨may2, least2, v2⟩ := M_pairs (wo := some i) (fun j h => by cases h; omega) hg hw may1 least1
    rw [if_pos (show nI 5 = nI 5 from rfl), if_pos (Nat.le_refl 5), u1, Option.bind_some, u2, Option.bind_some, show f_X6_pairsWith (-9) w may least = _ from v1, Option.bind_some]
    dsimp only
    rw [show f_X6_pairsWith (nI i) w may1 least1 = _ from v2, Option.bind_some]
    exact ⟨_, _, _, rfl, rfl⟩
theorem S_between {g : AN} {low high len w : Nat → Int32} (hg : gOK g) (hr : CL low high len g) (hw : RM w g) (p1 p2 : Int32) : ∃ r : Int32, f_X5_between p1 p2 (nI (gN g)) (nI (gK g)) low high = some r ∧ f_X6_between p1 p2 w = some r := by
  have h9 := hg.2.1
  have hk := hg.2.2.1
  unfold f_X5_between f_X6_between
  rcases chk_node h9 hw p1 with ⟨e1, e2⟩ | ⟨a, ha, rfl, e1, e2⟩
  · rw [e1, e2, if_pos rfl, Option.bind_some, if_pos rfl]; exact ⟨_, rfl, rfl⟩
  rw [e1, e2, if_neg ne10, Option.bind_some, if_neg ne10]
  rcases chk_node h9 hw p2 with ⟨e3, e4⟩ | ⟨b, hb, rfl, e3, e4⟩
  · rw [e3, e4, if_pos rfl, Option.bind_some, if_pos rfl]; exact ⟨_, rfl, rfl⟩
  rw [e3, e4, if_neg ne10, Option.bind_some, if_neg ne10, t_eq (by omega) (by omega), t_eq (by omega) (by omega)]
  by_cases c : a = b
  · rw [if_pos c, if_pos c]; exact ⟨_, rfl, rfl⟩
  rw [if_neg c, if_neg c, C_find hk (by omega) (by omega) (fun i hi => by have := hg.2.2.2.2 i hi; omega) (fun i hi => ⟨(hr i hi).1, (hr i hi).2.1⟩), M_find hg (by omega) (by omega) c hw, Option.bind_some, Option.bind_some]
  cases hf : gFind g a b with
  | none => rw [if_pos (by rfl)]; exact ⟨_, rfl, rfl⟩
  | some j =>
    have := fst1_some hf
    rw [enI_some, enI_some, if_neg (n_ne (by omega) (by decide))]
    exact ⟨_, rfl, rfl⟩
