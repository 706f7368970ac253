/-! the past -/
theorem C_copy_b {nn nk nr na ni on ok or' oa oi : Int32} {ol oh oln : Nat → Int32} : ∀ (m i fuel : Nat) (lo hi ln : Nat → Int32), i + m = 18 → m < fuel → (∀ x, x < i → lo x = ol x ∧ hi x = oh x ∧ ln x = oln x) → ∃ lo' hi' ln' : Nat → Int32, f_X1_copyFrom_b42 fuel (nI i) nn nk nr na ni lo hi ln on ok or' oa oi ol oh oln = some (nn, nk, nr, na, ni, lo', hi', ln') ∧ ∀ x, x < 18 → lo' x = ol x ∧ hi' x = oh x ∧ ln' x = oln x
  | 0, i, fuel, lo, hi, ln, h1, h2, h => by
    obtain ⟨n, rfl⟩ : ∃ n, fuel = n + 1 := ⟨fuel - 1, by omega⟩
    rw [f_X1_copyFrom_b42, l18, t_le (by omega) (by omega), if_pos (by omega)]
    exact ⟨lo, hi, ln, rfl, fun x hx => h x (by omega)⟩
  | m + 1, i, fuel, lo, hi, ln, h1, h2, h => by
    obtain ⟨n, rfl⟩ : ∃ n, fuel = n + 1 := ⟨fuel - 1, by omega⟩
    rw [f_X1_copyFrom_b42, l18, t_le (by omega) (by omega), if_neg (by omega), t_inb (by omega), if_pos (by omega), n_cl (by omega), nI_1]
    exact C_copy_b m (i + 1) n _ _ _ (by omega) (by omega) (fun x hx => by
      rw [upd_at, upd_at, upd_at]
      by_cases e : x = i
      · rw [if_pos e, if_pos e, if_pos e, e]; exact ⟨rfl, rfl, rfl⟩
      · rw [if_neg e, if_neg e, if_neg e]; exact h x (by omega))
/-- Network.copyFrom -/
theorem C_copy (v o : NV) : ∃ v' : NV, f_X1_copyFrom v.1 v.2.1 v.2.2.1 v.2.2.2.1 v.2.2.2.2.1 v.2.2.2.2.2.1 v.2.2.2.2.2.2.1 v.2.2.2.2.2.2.2 o.1 o.2.1 o.2.2.1 o.2.2.2.1 o.2.2.2.2.1 o.2.2.2.2.2.1 o.2.2.2.2.2.2.1 o.2.2.2.2.2.2.2 = some v' ∧ v'.2.1 = o.2.1 ∧ ∀ g, gK g ≤ 18 → RC o g → RC v' g := by
  obtain ⟨lo', hi', ln', e, h⟩ := C_copy_b (nn := o.1) (nk := o.2.1) (nr := o.2.2.1) (na := o.2.2.2.1) (ni := o.2.2.2.2.1) (on := o.1) (ok := o.2.1) (or' := o.2.2.1) (oa := o.2.2.2.1) (oi := o.2.2.2.2.1) (ol := o.2.2.2.2.2.1) (oh := o.2.2.2.2.2.2.1) (oln := o.2.2.2.2.2.2.2) 18 0 1000 v.2.2.2.2.2.1 v.2.2.2.2.2.2.1 v.2.2.2.2.2.2.2 (by omega) (by omega) (fun x hx => by omega)
  refine ⟨(o.1, o.2.1, o.2.2.1, o.2.2.2.1, o.2.2.2.2.1, lo', hi', ln'), e, rfl, fun g hk hr => ?_⟩
  obtain ⟨r1, r2, r3, r4, r5, r6⟩ := hr
  refine ⟨r1, r2, r3, r4, r5, fun i hi => ?_⟩
  obtain ⟨q1, q2, q3⟩ := h i (by omega)
  show lo' i = _ ∧ hi' i = _ ∧ ln' i = _
  rw [q1, q2, q3]
  exact r6 i hi
/-- which object stands where, all different -/
def PI (pi : Nat → Nat) : Prop := (∀ j, j < 8 → pi j < 8) ∧ ∀ i j, i < 8 → j < 8 → pi i = pi j → i = j
def HR (pi : Nat → Nat) (und : Int32) (hC : Nat → NV) (past : Nat → Int32) : Prop := PI pi ∧ ∃ u, u ≤ 8 ∧ und = nI u ∧ ∀ j, j < u → ∃ g, gOK g ∧ RC (hC (pi j)) g ∧ RM (fun k => past (93 * j + k)) g
theorem C_rec13 {pi : Nat → Nat} {u : Nat} {v : NV} {hC : Nat → NV} (hu : u < 8) (hp : PI pi) : ∃ v' : NV, f_X5_recordState_b13 pi (nI u) v.1 v.2.1 v.2.2.1 v.2.2.2.1 v.2.2.2.2.1 v.2.2.2.2.2.1 v.2.2.2.2.2.2.1 v.2.2.2.2.2.2.2 hC = some (pi, nI (u + 1), va_up hC (pi u) v') ∧ ∀ g, gK g ≤ 18 → RC v g → RC v' g := by
  have h := hp.1 u hu
  unfold f_X5_recordState_b13
  rw [t_inb (by omega), if_pos hu, n_cl (by omega), nI_1]
  obtain ⟨v', e, -, hv⟩ := C_copy (hC (pi u)) v
  refine ⟨v', ?_, hv⟩
  generalize pi u = P at *
  rcases Nat.lt_or_ge P 1 with c | c
  · have : P = 0 := by omega
    subst this
    rw [if_pos rfl, e]; rfl
  rw [if_neg (by omega)]
  rcases Nat.lt_or_ge P 2 with c | c
  · have : P = 1 := by omega
    subst this
    rw [if_pos rfl, e]; rfl
  rw [if_neg (by omega)]
  rcases Nat.lt_or_ge P 3 with c | c
  · have : P = 2 := by omega
    subst this
    rw [if_pos rfl, e]; rfl
  rw [if_neg (by omega)]
  rcases Nat.lt_or_ge P 4 with c | c
  · have : P = 3 := by omega
    subst this
    rw [if_pos rfl, e]; rfl
  rw [if_neg (by omega)]
  rcases Nat.lt_or_ge P 5 with c | c
  · have : P = 4 := by omega
    subst this
    rw [if_pos rfl, e]; rfl
  rw [if_neg (by omega)]
  rcases Nat.lt_or_ge P 6 with c | c
  · have : P = 5 := by omega
    subst this
    rw [if_pos rfl, e]; rfl
  rw [if_neg (by omega)]
  rcases Nat.lt_or_ge P 7 with c | c
  · have : P = 6 := by omega
    subst this
    rw [if_pos rfl, e]; rfl
  rw [if_neg (by omega)]
  have : P = 7 := by omega
  subst this
  rw [if_pos rfl, e]; rfl
def rot (pi : Nat → Nat) : Nat → Nat := va_up (va_up (va_up (va_up (va_up (va_up (va_up (va_up pi 0 (pi 1)) 1 (pi 2)) 2 (pi 3)) 3 (pi 4)) 4 (pi 5)) 5 (pi 6)) 6 (pi 7)) 7 (pi 0)
theorem C_drop {pi : Nat → Nat} {und : Int32} (hp : PI pi) : f_X5_dropOldestState pi und = some (rot pi, 7) := by
  have i1 : Int32.toNatClampNeg ((0 : Int32) + 1) = 1 := rfl
  have i2 : Int32.toNatClampNeg ((0 : Int32) + 1 + 1) = 2 := rfl
  have i3 : Int32.toNatClampNeg ((0 : Int32) + 1 + 1 + 1) = 3 := rfl
  have i4 : Int32.toNatClampNeg ((0 : Int32) + 1 + 1 + 1 + 1) = 4 := rfl
  have i5 : Int32.toNatClampNeg ((0 : Int32) + 1 + 1 + 1 + 1 + 1) = 5 := rfl
  have i6 : Int32.toNatClampNeg ((0 : Int32) + 1 + 1 + 1 + 1 + 1 + 1) = 6 := rfl
  have i7 : Int32.toNatClampNeg ((0 : Int32) + 1 + 1 + 1 + 1 + 1 + 1 + 1) = 7 := rfl
  unfold f_X5_dropOldestState rot
  rw [c0, i1, i2, i3, i4, i5, i6, i7, c7]
  rw [show va_up pi 0 (pi 1) 2 = pi 2 from rfl]
  rw [show va_up (va_up pi 0 (pi 1)) 1 (pi 2) 3 = pi 3 from rfl]
  rw [show va_up (va_up (va_up pi 0 (pi 1)) 1 (pi 2)) 2 (pi 3) 4 = pi 4 from rfl]
  rw [show va_up (va_up (va_up (va_up pi 0 (pi 1)) 1 (pi 2)) 2 (pi 3)) 3 (pi 4) 5 = pi 5 from rfl]
  rw [show va_up (va_up (va_up (va_up (va_up pi 0 (pi 1)) 1 (pi 2)) 2 (pi 3)) 3 (pi 4)) 4 (pi 5) 6 = pi 6 from rfl]
  rw [show va_up (va_up (va_up (va_up (va_up (va_up pi 0 (pi 1)) 1 (pi 2)) 2 (pi 3)) 3 (pi 4)) 4 (pi 5)) 5 (pi 6) 7 = pi 7 from rfl]
  rw [if_pos (decide_eq_true (hp.1 1 (by omega))), if_pos (decide_eq_true (hp.1 2 (by omega))), if_pos (decide_eq_true (hp.1 3 (by omega))), if_pos (decide_eq_true (hp.1 4 (by omega))), if_pos (decide_eq_true (hp.1 5 (by omega))), if_pos (decide_eq_true (hp.1 6 (by omega))), if_pos (decide_eq_true (hp.1 7 (by omega))), if_pos (decide_eq_true (hp.1 0 (by omega)))]
theorem rot_lt {pi : Nat → Nat} {j : Nat} (hj : j < 7) : rot pi j = pi (j + 1) := by
  have : j = 0 ∨ j = 1 ∨ j = 2 ∨ j = 3 ∨ j = 4 ∨ j = 5 ∨ j = 6 := by omega
  rcases this with rfl | rfl | rfl | rfl | rfl | rfl | rfl <;> rfl
theorem rot_7 (pi : Nat → Nat) : rot pi 7 = pi 0 := rfl
theorem rot_at {pi : Nat → Nat} {j : Nat} (hj : j < 8) : rot pi j = pi (if j = 7 then 0 else j + 1) := by
  by_cases e : j = 7
  · rw [if_pos e, e]; rfl
  · rw [if_neg e]; exact rot_lt (by omega)
theorem rot_PI {pi : Nat → Nat} (hp : PI pi) : PI (rot pi) := by
  refine ⟨fun j hj => ?_, fun i j hi hj e => ?_⟩
  · rw [rot_at hj]
    by_cases c : j = 7
    · rw [if_pos c]; exact hp.1 0 (by omega)
    · rw [if_neg c]; exact hp.1 (j + 1) (by omega)
  · rw [rot_at hi, rot_at hj] at e
    by_cases c : i = 7
    · rw [if_pos c] at e
      by_cases d : j = 7
      · omega
      · rw [if_neg d] at e; have := hp.2 0 (j + 1) (by omega) (by omega) e; omega
    · rw [if_neg c] at e
      by_cases d : j = 7
      · rw [if_pos d] at e; have := hp.2 (i + 1) 0 (by omega) (by omega) e; omega
      · rw [if_neg d] at e; have := hp.2 (i + 1) (j + 1) (by omega) (by omega) e; omega
/-- LetterNet.recordState -/
theorem C_record {pi : Nat → Nat} {u : Nat} {v : NV} {hC : Nat → NV} (hu : u ≤ 8) (hp : PI pi) : ∃ v' : NV, f_X5_recordState pi (nI u) v.1 v.2.1 v.2.2.1 v.2.2.2.1 v.2.2.2.2.1 v.2.2.2.2.2.1 v.2.2.2.2.2.2.1 v.2.2.2.2.2.2.2 hC = some (if u = 8 then rot pi else pi, nI (if u = 8 then 8 else u + 1), va_up hC (pi (if u = 8 then 0 else u)) v') ∧ ∀ g, gK g ≤ 18 → RC v g → RC v' g := by
  unfold f_X5_recordState
  rw [l8, t_lt (by omega) (by omega)]
  by_cases c : u = 8
  · rw [if_neg (by omega), C_drop hp, Option.bind_some, if_pos c, if_pos c, if_pos c]
    obtain ⟨v', e, h⟩ := C_rec13 (u := 7) (v := v) (hC := hC) (by omega) (rot_PI hp)
    exact ⟨v', e, h⟩
  · rw [if_pos (by omega), if_neg c, if_neg c, if_neg c]
    exact C_rec13 (by omega) hp
theorem M_rec51 {w : Nat → Int32} {u : Nat} (hu : u < 8) : ∀ (m k fuel : Nat) (past : Nat → Int32), k + m = 93 → m < fuel → ∃ past' : Nat → Int32, f_X6_record_b51 fuel (nI k) w past (nI u) = some (past', nI (u + 1)) ∧ ∀ x, past' x = if 93 * u + k ≤ x ∧ x < 93 * u + 93 then w (x - 93 * u) else past x
  | 0, k, fuel, past, h1, h2 => by
    obtain ⟨n, rfl⟩ : ∃ n, fuel = n + 1 := ⟨fuel - 1, by omega⟩
    rw [f_X6_record_b51, l93, t_le (by omega) (by omega), if_pos (by omega), nI_1]
    exact ⟨past, rfl, fun x => by rw [if_neg (by omega)]⟩
  | m + 1, k, fuel, past, h1, h2 => by
    obtain ⟨n, rfl⟩ : ∃ n, fuel = n + 1 := ⟨fuel - 1, by omega⟩
    rw [f_X6_record_b51, l93, t_le (by omega) (by omega), if_neg (by omega), n_mul, n_add, t_inb (by omega), if_pos (show k < 93 by omega), t_inb (by omega), if_pos (show 93 * u + k < 744 by omega), n_cl (by omega), n_cl (by omega), nI_1]
    obtain ⟨past', e, h⟩ := M_rec51 (w := w) hu m (k + 1) n (upd past (93 * u + k) (w k)) (by omega) (by omega)
    refine ⟨past', e, fun x => ?_⟩
    rw [h x, upd_at]
    by_cases c : x = 93 * u + k
    · rw [if_neg (by omega), if_pos c, if_pos (by omega)]
      congr 1
      omega
    · by_cases d : 93 * u + k ≤ x ∧ x < 93 * u + 93
      · rw [if_pos (by omega), if_pos d]
      · rw [if_neg (by omega), if_neg c, if_neg d]
theorem M_rec11 {w : Nat → Int32} {pm : Int32} : ∀ (m k fuel : Nat) (past : Nat → Int32), k + m = 651 → m < fuel → ∃ past' : Nat → Int32, f_X6_record_b11 fuel (nI k) w past pm = f_X6_record_b51 1000 (nI 0) w past' (pm - 1) ∧ ∀ x, past' x = if k ≤ x ∧ x < 651 then past (x + 93) else past x
  | 0, k, fuel, past, h1, h2 => by
    obtain ⟨n, rfl⟩ : ∃ n, fuel = n + 1 := ⟨fuel - 1, by omega⟩
    rw [f_X6_record_b11, l651, t_le (by omega) (by omega), if_pos (by omega)]
    exact ⟨past, rfl, fun x => by rw [if_neg (by omega)]⟩
  | m + 1, k, fuel, past, h1, h2 => by
    obtain ⟨n, rfl⟩ : ∃ n, fuel = n + 1 := ⟨fuel - 1, by omega⟩
    rw [f_X6_record_b11, l651, t_le (by omega) (by omega), if_neg (by omega), l93, n_add, t_inb (by omega), if_pos (show k + 93 < 744 by omega), t_inb (by omega), if_pos (show k < 744 by omega), n_cl (by omega), n_cl (by omega), nI_1]
    obtain ⟨past', e, h⟩ := M_rec11 (w := w) (pm := pm) m (k + 1) n (upd past k (past (k + 93))) (by omega) (by omega)
    refine ⟨past', e, fun x => ?_⟩
    rw [h x, upd_at, upd_at]
    by_cases c : x = k
    · rw [if_neg (by omega), if_pos c, if_pos (by omega), c]
    · by_cases d : k ≤ x ∧ x < 651
      · rw [if_pos (by omega), if_neg (by omega), if_pos d]
      · rw [if_neg (by omega), if_neg c, if_neg d]
/-- Model.record -/
theorem M_record {w past : Nat → Int32} {u : Nat} (hu : u ≤ 8) : ∃ past' : Nat → Int32, f_X6_record w past (nI u) = some (past', nI (if u = 8 then 8 else u + 1)) ∧ ∀ j k, j < (if u = 8 then 8 else u + 1) → k < 93 → past' (93 * j + k) = if j + 1 = (if u = 8 then 8 else u + 1) then w k else past (93 * (if u = 8 then j + 1 else j) + k) := by
  unfold f_X6_record
  rw [l8, t_eq (by omega) (by omega)]
  by_cases c : u = 8
  · rw [if_pos c, if_pos c]
    obtain ⟨p1, e1, h1⟩ := M_rec11 (w := w) (pm := nI u) 651 0 1000 past (by omega) (by omega)
    obtain ⟨p2, e2, h2⟩ := M_rec51 (w := w) (u := 7) (by omega) 93 0 1000 p1 (by omega) (by omega)
    refine ⟨p2, ?_, fun j k hj hk => ?_⟩
    · rw [show (0 : Int32) = nI 0 from rfl, e1, c, l1, n_sub (by omega)]
      exact e2
    · rw [h2, if_pos c]
      by_cases d : j + 1 = 8
      · rw [if_pos (by omega), if_pos d, show 93 * j + k - 93 * 7 = k by omega]
      · rw [if_neg (by omega), if_neg d, h1, if_pos (by omega), show 93 * j + k + 93 = 93 * (j + 1) + k by omega]
  · rw [if_neg c, if_neg c]
    obtain ⟨p2, e2, h2⟩ := M_rec51 (w := w) (u := u) (by omega) 93 0 1000 past (by omega) (by omega)
    refine ⟨p2, e2, fun j k hj hk => ?_⟩
    rw [h2, if_neg c]
    by_cases d : j + 1 = u + 1
    · rw [if_pos (by omega), if_pos d]
      congr 1
      omega
    · rw [if_neg (by omega), if_neg d]
theorem M_recH51 {w : Nat → Int32} {pm : Int32} : ∀ (fuel : Nat) (x : Int32) (past : Nat → Int32), f_X6_recordH_b51 fuel x past pm w = f_X6_record_b51 fuel x w past pm
  | 0, x, past => rfl
  | n + 1, x, past => by rw [f_X6_recordH_b51, f_X6_record_b51, M_recH51 n]
theorem M_recH11 {w : Nat → Int32} {pm : Int32} : ∀ (fuel : Nat) (x : Int32) (past : Nat → Int32), f_X6_recordH_b11 fuel x past pm w = f_X6_record_b11 fuel x w past pm
  | 0, x, past => rfl
  | n + 1, x, past => by rw [f_X6_recordH_b11, f_X6_record_b11, M_recH11 n, M_recH51]
theorem M_recH {w past : Nat → Int32} {pm : Int32} : f_X6_recordH past pm w = f_X6_record w past pm := by
  unfold f_X6_recordH f_X6_record
  rw [M_recH11, M_recH51]
theorem M_remember {w past : Nat → Int32} {pm : Int32} : f_X6_remember w past pm = f_X6_record w past pm := by
  unfold f_X6_remember
  cases h : f_X6_record w past pm with
  | none => rfl
  | some a => rfl
theorem RM.congr {w w' : Nat → Int32} {g : AN} (hk : gK g ≤ 18) (h : ∀ k, k < 93 → w' k = w k) (hw : RM w g) : RM w' g := by
  obtain ⟨a, b, c, d⟩ := hw
  refine ⟨by rw [h 0 (by omega)]; exact a, by rw [h 1 (by omega)]; exact b, by rw [h 2 (by omega)]; exact c, fun i hi => ?_⟩
  rw [h _ (by omega), h _ (by omega), h _ (by omega), h _ (by omega), h _ (by omega)]
  exact d i hi
/-- both record -/
theorem S_record {pi : Nat → Nat} {und : Int32} {hC : Nat → NV} {past w : Nat → Int32} {v : NV} {g : AN} (hh : HR pi und hC past) (hg : gOK g) (hr : RC v g) (hw : RM w g) : ∃ (pi' : Nat → Nat) (und' : Int32) (hC' : Nat → NV) (past' : Nat → Int32), f_X5_recordState pi und v.1 v.2.1 v.2.2.1 v.2.2.2.1 v.2.2.2.2.1 v.2.2.2.2.2.1 v.2.2.2.2.2.2.1 v.2.2.2.2.2.2.2 hC = some (pi', und', hC') ∧ f_X6_record w past und = some (past', und') ∧ HR pi' und' hC' past' := by
  obtain ⟨hp, u, hu, rfl, h⟩ := hh
  obtain ⟨v', e1, h1⟩ := C_record (v := v) (hC := hC) hu hp
  obtain ⟨past', e2, h2⟩ := M_record (w := w) (past := past) hu
  refine ⟨_, _, _, past', e1, e2, ?_, _, ?_, rfl, fun j hj => ?_⟩
  · by_cases c : u = 8
    · rw [if_pos c]; exact rot_PI hp
    · rw [if_neg c]; exact hp
  · by_cases c : u = 8
    · rw [if_pos c]; omega
    · rw [if_neg c]; omega
  · by_cases d : j + 1 = (if u = 8 then 8 else u + 1)
    · refine ⟨g, hg, ?_, ?_⟩
      · have : va_up hC (pi (if u = 8 then 0 else u)) v' ((if u = 8 then rot pi else pi) j) = v' := by
          rw [up_at, if_pos]
          by_cases c : u = 8
          · rw [if_pos c] at d
            rw [if_pos c, if_pos c, show j = 7 by omega]
            rfl
          · rw [if_neg c] at d
            rw [if_neg c, if_neg c, show j = u by omega]
        rw [this]
        exact h1 g hg.2.2.1 hr
      · refine RM.congr hg.2.2.1 (fun k hk => ?_) hw
        show past' (93 * j + k) = w k
        rw [h2 j k hj hk, if_pos d]
    · by_cases c : u = 8
      · rw [if_pos c] at hj d
        obtain ⟨g', k1, k2, k3⟩ := h (j + 1) (by omega)
        refine ⟨g', k1, ?_, ?_⟩
        · have : va_up hC (pi (if u = 8 then 0 else u)) v' ((if u = 8 then rot pi else pi) j) = hC (pi (j + 1)) := by
            rw [if_pos c, if_pos c, rot_lt (by omega), up_at, if_neg]
            intro q
            have := hp.2 (j + 1) 0 (by omega) (by omega) q
            omega
          rw [this]
          exact k2
        · refine RM.congr k1.2.2.1 (fun k hk => ?_) k3
          show past' (93 * j + k) = past (93 * (j + 1) + k)
          rw [h2 j k (by rw [if_pos c]; omega) hk, if_pos c, if_neg d, if_pos c]
      · rw [if_neg c] at hj d
        obtain ⟨g', k1, k2, k3⟩ := h j (by omega)
        refine ⟨g', k1, ?_, ?_⟩
        · have : va_up hC (pi (if u = 8 then 0 else u)) v' ((if u = 8 then rot pi else pi) j) = hC (pi j) := by
            rw [if_neg c, if_neg c, up_at, if_neg]
            intro q
            have := hp.2 j u (by omega) (by omega) q
            omega
          rw [this]
          exact k2
        · refine RM.congr k1.2.2.1 (fun k hk => ?_) k3
          show past' (93 * j + k) = past (93 * j + k)
          rw [h2 j k (by rw [if_neg c]; omega) hk, if_neg c, if_neg d, if_neg c]
