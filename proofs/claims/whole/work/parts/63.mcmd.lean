/-! one command of the reference -/
theorem mk0_20 {T : Nat → Nat} {s e : Nat} : mk0 T s e = 20 ↔ (e = s + 1 ∧ 97 ≤ T s ∧ T s ≤ 105) := by
  have k5 := kw_le T s e
  unfold mk0
  by_cases d : e = s + 1
  · rw [if_pos d]
    by_cases u : 97 ≤ T s ∧ T s ≤ 105
    · rw [if_pos u]; exact ⟨fun _ => ⟨d, u⟩, fun _ => rfl⟩
    · rw [if_neg u]
      by_cases v : 49 ≤ T s ∧ T s ≤ 57
      · rw [if_pos v]; exact ⟨fun q => by exact absurd q (by decide), fun q => absurd q.2 u⟩
      · rw [if_neg v]; exact ⟨fun q => by exact absurd q (by decide), fun q => absurd q.2 u⟩
  · rw [if_neg d]
    by_cases u : kw T s e = 5
    · rw [if_pos u]; exact ⟨fun q => by exact absurd q (by decide), fun q => absurd q.1 d⟩
    · rw [if_neg u, show (20 : Int32) = nI 20 from rfl, n_eq (by omega) (by omega)]; exact ⟨fun q => by omega, fun q => absurd q.1 d⟩
theorem mk0_21 {T : Nat → Nat} {s e : Nat} : mk0 T s e = 21 ↔ (e = s + 1 ∧ 49 ≤ T s ∧ T s ≤ 57) := by
  have k5 := kw_le T s e
  unfold mk0
  by_cases d : e = s + 1
  · rw [if_pos d]
    by_cases u : 97 ≤ T s ∧ T s ≤ 105
    · rw [if_pos u]; exact ⟨fun q => by exact absurd q (by decide), fun q => by omega⟩
    · rw [if_neg u]
      by_cases v : 49 ≤ T s ∧ T s ≤ 57
      · rw [if_pos v]; exact ⟨fun _ => ⟨d, v⟩, fun _ => rfl⟩
      · rw [if_neg v]; exact ⟨fun q => by exact absurd q (by decide), fun q => absurd q.2 v⟩
  · rw [if_neg d]
    by_cases u : kw T s e = 5
    · rw [if_pos u]; exact ⟨fun q => by exact absurd q (by decide), fun q => absurd q.1 d⟩
    · rw [if_neg u, show (21 : Int32) = nI 21 from rfl, n_eq (by omega) (by omega)]; exact ⟨fun q => by omega, fun q => absurd q.1 d⟩
def npt (k : Nat) : Nat := if k = 0 then 4 else if k = 4 then 2 else 3
theorem M_partsOf {k : Nat} (hk : k < 1000) : f_X6_partsOf (nI k) = nI (npt k) := by
  unfold f_X6_partsOf npt
  rw [l0, l4, t_eq (by omega) (by omega), t_eq (by omega) (by omega)]
  by_cases u : k = 0
  · rw [if_pos u, if_pos u]
  · rw [if_neg u, if_neg u]
    by_cases v : k = 4
    · rw [if_pos v, if_pos v]; rfl
    · rw [if_neg v, if_neg v]; rfl
/-- a part of a command is put down -/
theorem M_put {c : Nat → Int32} {T : Nat → Nat} {n e fuel j k m : Nat} {v : Int32} {cs : Nat → Int32} (h : TX c T n) (he : e ≤ n) (hb : e < n → T e = 32) (hf : n - e < fuel) (hk : k ≤ 4) (hj : j ≤ 3) (hm : m < 80) : ∃ p', p' ≤ n ∧ n - p' < fuel ∧ wsA T n p' = wsA T n e ∧ f_X6_read_b181 (f_X6_read_b12 fuel) (nI j) (nI k) (nI e) v (nI (4 * m + j)) c (nI n) cs (nI m) = f_X6_read_b12 fuel (nI (if j + 1 = npt k then 0 else j + 1)) (nI k) (nI p') c (nI n) (upd cs (4 * m + j) v) (nI (if j + 1 = npt k then m + 1 else m)) := by
  have hn := h.1
  have hp : npt k ≤ 4 := by unfold npt; repeat' split
                            all_goals omega
  unfold f_X6_read_b181
  rw [t_inb (by omega), if_pos (show 4 * m + j < 320 by omega), nI_1, nI_1, M_partsOf (by omega), t_eq (by omega) (by omega), n_cl (by omega)]
  by_cases d : j + 1 = npt k
  · rw [if_pos d, if_pos d, if_pos d]
    obtain ⟨p', a1, a2, a3, a4, a5⟩ := M_b205 (x1' := 0) (x2' := nI k) (cm := nI (m + 1)) (cs := upd cs (4 * m + j) v) h he hb hf
    exact ⟨p', a1, a3, a4, a5⟩
  · rw [if_neg d, if_neg d, if_neg d]
    obtain ⟨p', a1, a2, a3, a4, a5⟩ := M_b205 (x1' := nI (j + 1)) (x2' := nI k) (cm := nI m) (cs := upd cs (4 * m + j) v) h he hb hf
    exact ⟨p', a1, a3, a4, a5⟩
theorem sgn_w {T : Nat → Nat} {n lo hi p : Nat} (hp : p ≤ n) (h : sgn T n lo hi p) : w1 T n p < n := by
  have := wx_le (T := T) hp
  have := h.1
  omega
/-- a word that must be a name -/
theorem M_name {c : Nat → Int32} {T : Nat → Nat} {n p fuel j k m : Nat} {cs : Nat → Int32} (h : TX c T n) (hp : p ≤ n) (hf : n - p < fuel) (hk : k ≤ 3) (hj : 1 ≤ j) (hj2 : j ≤ 2) (hm : m < 80) :
    (sgn T n 97 105 p ∧ ∃ fuel' p', p' ≤ n ∧ n - p' < fuel' ∧ wsA T n p' = wsA T n (x1 T n p) ∧ f_X6_read_b12 fuel (nI j) (nI k) (nI p) c (nI n) cs (nI m) = f_X6_read_b12 fuel' (nI (if j + 1 = npt k then 0 else j + 1)) (nI k) (nI p') c (nI n) (upd cs (4 * m + j) (nI (T (w1 T n p) - 97))) (nI (if j + 1 = npt k then m + 1 else m))) ∨
    (¬ sgn T n 97 105 p ∧ f_X6_read_b12 fuel (nI j) (nI k) (nI p) c (nI n) cs (nI m) = some (nI (w1 T n p), cs, nI m)) := by
  have hn := h.1
  have hw := wx_le (T := T) hp
  have nj : ¬ nI j = 0 := by rw [l0, n_eq (by omega) (by omega)]; omega
  by_cases hs : w1 T n p = n
  · refine Or.inr ⟨fun q => by have := sgn_w hp q; omega, ?_⟩
    rw [M_noword h hp hf hs, if_neg nj, hs]
  obtain ⟨f1, g1, g2, g3⟩ := M_word (x1' := nI j) (x2' := nI k) (cm := nI m) (cs := cs) h hp hf (by omega)
  have hb := wsA_b (T := T) hp
  have hwn : w1 T n p < n := by omega
  have hlt : w1 T n p < x1 T n p := weA_lt hwn (hb.2.2 hwn)
  obtain ⟨q1, q2, q3⟩ := h.2 (w1 T n p) (by omega)
  have hwant : f_X6_wanted (nI k) (nI j) = 20 := by
    unfold f_X6_wanted
    rw [l4, l3, t_eq (by omega) (by omega), t_eq (by omega) (by omega), if_neg (by omega), if_neg (by omega)]
  rw [g3]
  unfold f_X6_read_b48
  rw [t_le (by omega) (by omega), if_neg (show ¬ x1 T n p ≤ w1 T n p by omega), M_kindOf h hlt hw.2.2, Option.bind_some, if_neg nj, hwant, if_neg (show ¬ nI k = 4 by rw [l4, n_eq (by omega) (by omega)]; omega)]
  by_cases d : sgn T n 97 105 p
  · refine Or.inl ⟨d, ?_⟩
    rw [if_pos (mk0_20.mpr d)]
    unfold f_X6_read_b109 f_X6_read_b129
    have d2 := d.2.1
    have e20 : mk0 T (w1 T n p) (x1 T n p) = 20 := mk0_20.mpr d
    rw [if_neg ne10, if_neg nj, if_neg nj, if_pos e20, t_inb (by omega), if_pos (show w1 T n p < 80 by omega), n_cl (by omega), q1, show (97 : Int32) = nI 97 from rfl, n_sub (by omega), l4, n_mul, n_add]
    obtain ⟨p', a1, a2, a3, a4⟩ := M_put (v := nI (T (w1 T n p) - 97)) (cs := cs) h hw.2.2 (weA_b (T := T) hb.2.1).2.2 g1 (show k ≤ 4 by omega) (show j ≤ 3 by omega) hm
    exact ⟨f1, p', a1, a2, a3, a4⟩
  · refine Or.inr ⟨d, ?_⟩
    rw [if_neg (fun q => d (mk0_20.mp q))]
    unfold f_X6_read_b109
    rw [if_pos (show (0 : Int32) = 0 from rfl)]
/-- a word that must be a digit, the last part -/
theorem M_digit {c : Nat → Int32} {T : Nat → Nat} {n p fuel j k m : Nat} {cs : Nat → Int32} (h : TX c T n) (hp : p ≤ n) (hf : n - p < fuel) (hkj : (k = 0 ∧ j = 3) ∨ (k = 4 ∧ j = 1)) (hm : m < 80) :
    (sgn T n (if k = 4 then 50 else 49) 57 p ∧ ∃ fuel' p', p' ≤ n ∧ n - p' < fuel' ∧ wsA T n p' = wsA T n (x1 T n p) ∧ f_X6_read_b12 fuel (nI j) (nI k) (nI p) c (nI n) cs (nI m) = f_X6_read_b12 fuel' 0 (nI k) (nI p') c (nI n) (upd cs (4 * m + j) (nI (T (w1 T n p) - 48))) (nI (m + 1))) ∨
    (¬ sgn T n (if k = 4 then 50 else 49) 57 p ∧ f_X6_read_b12 fuel (nI j) (nI k) (nI p) c (nI n) cs (nI m) = some (nI (w1 T n p), cs, nI m)) := by
  have hn := h.1
  have hw := wx_le (T := T) hp
  have nj : ¬ nI j = 0 := by rw [l0, n_eq (by omega) (by omega)]; omega
  have hlast : j + 1 = npt k := by
    rcases hkj with ⟨rfl, rfl⟩ | ⟨rfl, rfl⟩ <;> rfl
  by_cases hs : w1 T n p = n
  · refine Or.inr ⟨fun q => by have := sgn_w hp q; omega, ?_⟩
    rw [M_noword h hp hf hs, if_neg nj, hs]
  obtain ⟨f1, g1, g2, g3⟩ := M_word (x1' := nI j) (x2' := nI k) (cm := nI m) (cs := cs) h hp hf (by omega)
  have hb := wsA_b (T := T) hp
  have hwn : w1 T n p < n := by omega
  have hlt : w1 T n p < x1 T n p := weA_lt hwn (hb.2.2 hwn)
  obtain ⟨q1, q2, q3⟩ := h.2 (w1 T n p) (by omega)
  have hwant : f_X6_wanted (nI k) (nI j) = 21 := by
    unfold f_X6_wanted
    rw [l4, l3, t_eq (by omega) (by omega), t_eq (by omega) (by omega)]
    rcases hkj with ⟨rfl, rfl⟩ | ⟨rfl, rfl⟩ <;> rfl
  have b109 : sgn T n 49 57 p → ∃ fuel' p', p' ≤ n ∧ n - p' < fuel' ∧ wsA T n p' = wsA T n (x1 T n p) ∧ f_X6_read_b109 (f_X6_read_b12 f1) (nI j) (nI k) (nI (x1 T n p)) (nI (w1 T n p)) (mk0 T (w1 T n p) (x1 T n p)) 1 c (nI n) cs (nI m) = f_X6_read_b12 fuel' 0 (nI k) (nI p') c (nI n) (upd cs (4 * m + j) (nI (T (w1 T n p) - 48))) (nI (m + 1)) := by
    intro d
    have e21 : mk0 T (w1 T n p) (x1 T n p) = 21 := mk0_21.mpr d
    have d2 := d.2.1
    unfold f_X6_read_b109 f_X6_read_b129
    rw [if_neg ne10, if_neg nj, if_neg nj, e21, if_neg (show ¬ (21 : Int32) = 20 by decide), t_inb (by omega), if_pos (show w1 T n p < 80 by omega), n_cl (by omega), q1, show (48 : Int32) = nI 48 from rfl, n_sub (by omega), l4, n_mul, n_add]
    obtain ⟨p', a1, a2, a3, a4⟩ := M_put (v := nI (T (w1 T n p) - 48)) (cs := cs) h hw.2.2 (weA_b (T := T) hb.2.1).2.2 g1 (show k ≤ 4 by omega) (show j ≤ 3 by omega) hm
    rw [if_pos hlast, if_pos hlast] at a4
    exact ⟨f1, p', a1, a2, a3, a4⟩
  rw [g3]
  unfold f_X6_read_b48
  rw [t_le (by omega) (by omega), if_neg (show ¬ x1 T n p ≤ w1 T n p by omega), M_kindOf h hlt hw.2.2, Option.bind_some, if_neg nj, hwant, l4, t_eq (by omega) (by omega), t_inb (by omega), if_pos (show w1 T n p < 80 by omega), n_cl (by omega), q1, show (49 : Int32) = nI 49 from rfl, t_eq (by omega) (by omega)]
  have fail : ∀ z : Int32, f_X6_read_b109 (f_X6_read_b12 f1) (nI j) (nI k) (nI (x1 T n p)) (nI (w1 T n p)) z 0 c (nI n) cs (nI m) = some (nI (w1 T n p), cs, nI m) := by
    intro z
    unfold f_X6_read_b109
    rw [if_pos (show (0 : Int32) = 0 from rfl)]
  by_cases d : sgn T n 49 57 p
  · rw [if_pos (show mk0 T (w1 T n p) (x1 T n p) = 21 from mk0_21.mpr d)]
    by_cases k4 : k = 4
    · rw [if_pos k4, if_pos k4]
      by_cases u : T (w1 T n p) = 49
      · rw [if_pos u, fail]
        exact Or.inr ⟨fun q => by have := q.2.1; omega, rfl⟩
      · rw [if_neg u]
        exact Or.inl ⟨⟨d.1, by have := d.2.1; omega, d.2.2⟩, b109 d⟩
    · rw [if_neg k4, if_neg k4]
      exact Or.inl ⟨d, b109 d⟩
  · rw [if_neg (fun q => d (mk0_21.mp q)), fail]
    refine Or.inr ⟨fun q => ?_, rfl⟩
    by_cases k4 : k = 4
    · rw [if_pos k4] at q; exact d ⟨q.1, by have := q.2.1; omega, q.2.2⟩
    · rw [if_neg k4] at q; exact d q
/-- the first word -/
theorem M_first_word {c : Nat → Int32} {T : Nat → Nat} {n p fuel m : Nat} {x2' : Int32} {cs : Nat → Int32} (h : TX c T n) (hp : p ≤ n) (hf : n - p < fuel) (hm : m < 80) :
    (w1 T n p = x1 T n p ∧ f_X6_read_b12 fuel 0 x2' (nI p) c (nI n) cs (nI m) = some (-9, cs, nI m)) ∨
    (¬ w1 T n p = x1 T n p ∧ kw T (w1 T n p) (x1 T n p) = 5 ∧ f_X6_read_b12 fuel 0 x2' (nI p) c (nI n) cs (nI m) = some (nI (w1 T n p), cs, nI m)) ∨
    (¬ w1 T n p = x1 T n p ∧ kw T (w1 T n p) (x1 T n p) ≠ 5 ∧ ∃ fuel' p', p' ≤ n ∧ n - p' < fuel' ∧ wsA T n p' = wsA T n (x1 T n p) ∧ f_X6_read_b12 fuel 0 x2' (nI p) c (nI n) cs (nI m) = f_X6_read_b12 fuel' (nI 1) (nI (kw T (w1 T n p) (x1 T n p))) (nI p') c (nI n) (upd cs (4 * m) (nI (kw T (w1 T n p) (x1 T n p)))) (nI m)) := by
  have hn := h.1
  have hw := wx_le (T := T) hp
  by_cases hs : w1 T n p = n
  · refine Or.inl ⟨?_, ?_⟩
    · show w1 T n p = weA T n (w1 T n p)
      rw [hs, weA_n]
    · rw [M_noword h hp hf hs, if_pos rfl]
  obtain ⟨f1, g1, g2, g3⟩ := M_word (x1' := 0) (x2' := x2') (cm := nI m) (cs := cs) h hp hf (by omega)
  have hb := wsA_b (T := T) hp
  have hwn : w1 T n p < n := by omega
  have hlt : w1 T n p < x1 T n p := weA_lt hwn (hb.2.2 hwn)
  have k5 := kw_le T (w1 T n p) (x1 T n p)
  refine Or.inr ?_
  rw [g3]
  unfold f_X6_read_b48
  rw [t_le (by omega) (by omega), if_neg (show ¬ x1 T n p ≤ w1 T n p by omega), M_kindOf h hlt hw.2.2, Option.bind_some, if_pos (show (0 : Int32) = 0 from rfl)]
  by_cases k : kw T (w1 T n p) (x1 T n p) = 5
  · refine Or.inl ⟨by omega, k, ?_⟩
    have e : f_X6_isIn (mk0 T (w1 T n p) (x1 T n p)) 0 4 = 0 := by
      unfold mk0
      by_cases d : x1 T n p = w1 T n p + 1
      · rw [if_pos d]
        by_cases u : 97 ≤ T (w1 T n p) ∧ T (w1 T n p) ≤ 105
        · rw [if_pos u]; decide
        · rw [if_neg u]
          by_cases v : 49 ≤ T (w1 T n p) ∧ T (w1 T n p) ≤ 57
          · rw [if_pos v]; decide
          · rw [if_neg v]; decide
      · rw [if_neg d, if_pos k]; decide
    rw [e]
    unfold f_X6_read_b109
    rw [if_pos (show (0 : Int32) = 0 from rfl)]
  · refine Or.inr ⟨by omega, k, ?_⟩
    have d1 : ¬ x1 T n p = w1 T n p + 1 := fun q => k (by rw [q]; exact kw_1)
    have e : mk0 T (w1 T n p) (x1 T n p) = nI (kw T (w1 T n p) (x1 T n p)) := by unfold mk0; rw [if_neg d1, if_neg k]
    rw [e, show f_X6_isIn (nI (kw T (w1 T n p) (x1 T n p))) 0 4 = 1 by
      have := n_isIn (j := kw T (w1 T n p) (x1 T n p)) (a := 0) (b := 4) (by omega) (by omega) (by omega)
      rw [if_pos (by omega)] at this
      exact this]
    unfold f_X6_read_b109 f_X6_read_b129
    rw [if_neg ne10, if_pos (show (0 : Int32) = 0 from rfl), if_pos (show (0 : Int32) = 0 from rfl), l4, n_mul, n_add0]
    have hnp : ¬ 0 + 1 = npt (kw T (w1 T n p) (x1 T n p)) := by unfold npt; repeat' split
                                                                all_goals omega
    obtain ⟨p', a1, a2, a3, a4⟩ := M_put (j := 0) (v := nI (kw T (w1 T n p) (x1 T n p))) (cs := cs) h hw.2.2 (weA_b (T := T) hb.2.1).2.2 g1 (show kw T (w1 T n p) (x1 T n p) ≤ 4 by omega) (by omega) hm
    rw [if_neg hnp, if_neg hnp] at a4
    exact ⟨f1, p', a1, a2, a3, a4⟩
/-- what a command leaves in the row -/
def CS (cs : Nat → Int32) (m : Nat) (q : PC) : Prop := cs (4 * m) = nI q.2.1 ∧ (q.2.1 ≠ 4 → cs (4 * m + 1) = nI q.2.2.1 ∧ cs (4 * m + 2) = nI q.2.2.2.1) ∧ (q.2.1 = 0 → cs (4 * m + 3) = nI q.2.2.2.2.1) ∧ (q.2.1 = 4 → cs (4 * m + 1) = nI q.2.2.2.2.1)
def MR (c : Nat → Int32) (T : Nat → Nat) (n : Nat) (X : Option (Int32 × (Nat → Int32) × Int32)) (q : PC) (cs : Nat → Int32) (m : Nat) : Prop :=
  (q.1 = 0 ∧ ∃ cs', X = some (-9, cs', nI m) ∧ ∀ x, x < 4 * m → cs' x = cs x) ∨ (q.1 = 1 ∧ ∃ cs', X = some (nI q.2.2.2.2.2, cs', nI m)) ∨
  (q.1 = 2 ∧ ∃ fuel p cs', p ≤ n ∧ n - p < fuel ∧ wsA T n p = wsA T n q.2.2.2.2.2 ∧ X = f_X6_read_b12 fuel 0 (nI q.2.1) (nI p) c (nI n) cs' (nI (m + 1)) ∧ (∀ x, x < 4 * m → cs' x = cs x) ∧ CS cs' m q)
theorem sgn_congr {T : Nat → Nat} {n lo hi p q : Nat} (h : wsA T n p = wsA T n q) : sgn T n lo hi p ↔ sgn T n lo hi q := by
  show (weA T n (wsA T n p) = wsA T n p + 1 ∧ lo ≤ T (wsA T n p) ∧ T (wsA T n p) ≤ hi) ↔ (weA T n (wsA T n q) = wsA T n q + 1 ∧ lo ≤ T (wsA T n q) ∧ T (wsA T n q) ≤ hi)
  rw [h]
theorem x1_congr {T : Nat → Nat} {n p q : Nat} (h : wsA T n p = wsA T n q) : x1 T n p = x1 T n q := by
  show weA T n (wsA T n p) = weA T n (wsA T n q)
  rw [h]
theorem M_cmd {c : Nat → Int32} {T : Nat → Nat} {n p q fuel m : Nat} {x2' : Int32} {cs : Nat → Int32} (h : TX c T n) (hp : p ≤ n) (hf : n - p < fuel) (hm : m < 80) (hq : wsA T n p = wsA T n q) : MR c T n (f_X6_read_b12 fuel 0 x2' (nI p) c (nI n) cs (nI m)) (pcm T n q) cs m := by
  have ew : w1 T n p = w1 T n q := hq
  have ex : x1 T n p = x1 T n q := x1_congr hq
  have k5 := kw_le T (w1 T n q) (x1 T n q)
  unfold pcm
  rcases M_first_word (x2' := x2') (cs := cs) h hp hf hm with ⟨a1, a2⟩ | ⟨a0, a1, a2⟩ | ⟨a0, a1, f1, p1, b1, b2, b3, b4⟩
  · rw [ew, ex] at a1
    rw [if_pos a1]
    exact Or.inl ⟨rfl, cs, a2, fun _ _ => rfl⟩
  · rw [ew, ex] at a0 a1
    rw [if_neg a0, if_pos a1, ← ew]
    exact Or.inr (Or.inl ⟨rfl, cs, a2⟩)
  rw [ew, ex] at a0 a1 b4
  rw [ex] at b3
  rw [if_neg a0, if_neg a1, b4]
  generalize hk : kw T (w1 T n q) (x1 T n q) = k at *
  by_cases k4 : k = 4
  · rw [if_pos k4]
    unfold pc4
    subst k4
    rcases M_digit (k := 4) (j := 1) (cs := upd cs (4 * m) (nI 4)) h b1 b2 (Or.inr ⟨rfl, rfl⟩) hm with ⟨d1, f2, p2, e1, e2, e3, e4⟩ | ⟨d1, e4⟩
    · rw [if_pos (show (4 : Nat) = 4 from rfl)] at d1
      rw [if_pos ((sgn_congr b3).mp d1), e4, show w1 T n p1 = w1 T n (x1 T n q) from b3]
      refine Or.inr (Or.inr ⟨rfl, f2, p2, _, e1, e2, by rw [e3, x1_congr b3], rfl, fun x hx => ?_, ?_, fun z => absurd rfl z, fun z => (by cases z), fun _ => ?_⟩)
      · rw [upd_ne (by omega), upd_ne (by omega)]
      · rw [upd_ne (by omega), upd_eq]
      · rw [upd_eq]
    · rw [if_pos (show (4 : Nat) = 4 from rfl)] at d1
      rw [if_neg (fun z => d1 ((sgn_congr b3).mpr z)), e4]
      exact Or.inr (Or.inl ⟨rfl, _, by rw [show w1 T n p1 = w1 T n (x1 T n q) from b3]⟩)
  rw [if_neg k4]
  unfold pc1
  rcases M_name (k := k) (j := 1) (cs := upd cs (4 * m) (nI k)) h b1 b2 (by omega) (by omega) (by omega) hm with ⟨d1, f2, p2, e1, e2, e3, e4⟩ | ⟨d1, e4⟩
  · rw [if_pos ((sgn_congr b3).mp d1), e4, if_neg (show ¬ 1 + 1 = npt k by unfold npt; rw [if_neg k4]; split <;> omega), if_neg (show ¬ 1 + 1 = npt k by unfold npt; rw [if_neg k4]; split <;> omega)]
    rw [x1_congr b3] at e3
    have ew1 : w1 T n p1 = w1 T n (x1 T n q) := b3
    unfold pc2
    rcases M_name (k := k) (j := 2) (cs := upd (upd cs (4 * m) (nI k)) (4 * m + 1) (nI (T (w1 T n p1) - 97))) h e1 e2 (by omega) (by omega) (by omega) hm with ⟨d2, f3, p3, g1, g2, g3, g4⟩ | ⟨d2, g4⟩
    · rw [if_pos ((sgn_congr e3).mp d2), show (1 + 1) = 2 from rfl, g4]
      rw [x1_congr e3] at g3
      have ew2 : w1 T n p2 = w1 T n (x1 T n (x1 T n q)) := e3
      by_cases k0 : k = 0
      · subst k0
        rw [if_pos rfl, if_neg (show ¬ 2 + 1 = npt 0 by decide), if_neg (show ¬ 2 + 1 = npt 0 by decide)]
        unfold pc3
        rcases M_digit (k := 0) (j := 3) (cs := upd (upd (upd cs (4 * m) (nI 0)) (4 * m + 1) (nI (T (w1 T n p1) - 97))) (4 * m + 2) (nI (T (w1 T n p2) - 97))) h g1 g2 (Or.inl ⟨rfl, rfl⟩) hm with ⟨d3, f4, p4, i1, i2, i3, i4⟩ | ⟨d3, i4⟩
        · rw [if_neg (show ¬ (0 : Nat) = 4 by omega)] at d3
          rw [if_pos ((sgn_congr g3).mp d3), show (2 + 1) = 3 from rfl, i4, show w1 T n p3 = w1 T n (x1 T n (x1 T n (x1 T n q))) from g3]
          refine Or.inr (Or.inr ⟨rfl, f4, p4, _, i1, i2, by rw [i3, x1_congr g3], rfl, fun x hx => ?_, ?_, fun _ => ⟨?_, ?_⟩, fun _ => ?_, fun z => (by cases z)⟩)
          · rw [upd_ne (by omega), upd_ne (by omega), upd_ne (by omega), upd_ne (by omega)]
          · rw [upd_ne (by omega), upd_ne (by omega), upd_ne (by omega), upd_eq]
          · rw [upd_ne (by omega), upd_ne (by omega), upd_eq, ew1]
          · rw [upd_ne (by omega), upd_eq, ew2]
          · rw [upd_eq]
        · rw [if_neg (show ¬ (0 : Nat) = 4 by omega)] at d3
          rw [if_neg (fun z => d3 ((sgn_congr g3).mpr z)), show (2 + 1) = 3 from rfl, i4]
          exact Or.inr (Or.inl ⟨rfl, _, by rw [show w1 T n p3 = w1 T n (x1 T n (x1 T n (x1 T n q))) from g3]⟩)
      · have hn3 : 2 + 1 = npt k := by unfold npt; rw [if_neg k0, if_neg k4]
        rw [if_neg k0, if_pos hn3, if_pos hn3]
        refine Or.inr (Or.inr ⟨rfl, f3, p3, _, g1, g2, g3, rfl, fun x hx => ?_, ?_, fun _ => ⟨?_, ?_⟩, fun z => absurd z k0, fun z => absurd z k4⟩)
        · rw [upd_ne (by omega), upd_ne (by omega), upd_ne (by omega)]
        · rw [upd_ne (by omega), upd_ne (by omega), upd_eq]
        · rw [upd_ne (by omega), upd_eq, ew1]
        · rw [upd_eq, ew2]
    · rw [if_neg (fun z => d2 ((sgn_congr e3).mpr z)), show (1 + 1) = 2 from rfl, g4]
      exact Or.inr (Or.inl ⟨rfl, _, by rw [show w1 T n p2 = w1 T n (x1 T n (x1 T n q)) from e3]⟩)
  · rw [if_neg (fun z => d1 ((sgn_congr b3).mpr z)), e4]
    exact Or.inr (Or.inl ⟨rfl, _, by rw [show w1 T n p1 = w1 T n (x1 T n q) from b3]⟩)
/-! what a command's numbers are -/
theorem pcm_ok {T : Nat → Nat} {n p : Nat} (hp : p ≤ n) : ((pcm T n p).1 = 0 ∨ (pcm T n p).1 = 1 ∨ (pcm T n p).1 = 2) ∧ ((pcm T n p).1 = 1 → (pcm T n p).2.2.2.2.2 ≤ n) ∧ ((pcm T n p).1 = 2 → p + 1 ≤ (pcm T n p).2.2.2.2.2 ∧ (pcm T n p).2.2.2.2.2 ≤ n ∧ (pcm T n p).2.1 ≤ 4 ∧ ((pcm T n p).2.1 ≠ 4 → (pcm T n p).2.2.1 ≤ 8 ∧ (pcm T n p).2.2.2.1 ≤ 8) ∧ ((pcm T n p).2.1 = 0 → 1 ≤ (pcm T n p).2.2.2.2.1 ∧ (pcm T n p).2.2.2.2.1 ≤ 9) ∧ ((pcm T n p).2.1 = 4 → 2 ≤ (pcm T n p).2.2.2.2.1 ∧ (pcm T n p).2.2.2.2.1 ≤ 9)) := by
  have a := wx_le (T := T) hp
  have b := wx_le (T := T) a.2.2
  have c := wx_le (T := T) b.2.2
  have d := wx_le (T := T) c.2.2
  have k5 := kw_le T (w1 T n p) (x1 T n p)
  have flt : ∀ s : Nat, s ≤ n → ((1, 0, 0, 0, 0, s) : PC).1 = 1 → True := fun _ _ _ => trivial
  unfold pcm
  by_cases d0 : w1 T n p = x1 T n p
  · rw [if_pos d0]; exact ⟨Or.inl rfl, fun z => (by cases z), fun z => (by cases z)⟩
  rw [if_neg d0]
  generalize kw T (w1 T n p) (x1 T n p) = k at *
  by_cases d5 : k = 5
  · rw [if_pos d5]; exact ⟨Or.inr (Or.inl rfl), fun _ => by show w1 T n p ≤ n; omega, fun z => (by cases z)⟩
  rw [if_neg d5]
  by_cases d4 : k = 4
  · rw [if_pos d4]
    unfold pc4
    by_cases u : sgn T n 50 57 (x1 T n p)
    · rw [if_pos u]
      have u1 := u.2.1
      have u2 := u.2.2
      exact ⟨Or.inr (Or.inr rfl), fun z => (by cases z), fun _ => ⟨by show p + 1 ≤ x1 T n (x1 T n p); omega, by show x1 T n (x1 T n p) ≤ n; omega, Nat.le_refl 4, fun z => absurd rfl z, fun z => (by cases z), fun _ => ⟨by show 2 ≤ T (w1 T n (x1 T n p)) - 48; omega, by show T (w1 T n (x1 T n p)) - 48 ≤ 9; omega⟩⟩⟩
    · rw [if_neg u]; exact ⟨Or.inr (Or.inl rfl), fun _ => by show w1 T n (x1 T n p) ≤ n; omega, fun z => (by cases z)⟩
  rw [if_neg d4]
  unfold pc1
  by_cases u : sgn T n 97 105 (x1 T n p)
  · rw [if_pos u]
    have u1 := u.2.1
    have u2 := u.2.2
    unfold pc2
    by_cases v : sgn T n 97 105 (x1 T n (x1 T n p))
    · rw [if_pos v]
      have v1 := v.2.1
      have v2 := v.2.2
      by_cases k0 : k = 0
      · rw [if_pos k0]
        unfold pc3
        by_cases y : sgn T n 49 57 (x1 T n (x1 T n (x1 T n p)))
        · rw [if_pos y]
          have y1 := y.2.1
          have y2 := y.2.2
          exact ⟨Or.inr (Or.inr rfl), fun z => (by cases z), fun _ => ⟨by show p + 1 ≤ x1 T n (x1 T n (x1 T n (x1 T n p))); omega, by show x1 T n (x1 T n (x1 T n (x1 T n p))) ≤ n; omega, Nat.zero_le 4, fun _ => ⟨by show T (w1 T n (x1 T n p)) - 97 ≤ 8; omega, by show T (w1 T n (x1 T n (x1 T n p))) - 97 ≤ 8; omega⟩, fun _ => ⟨by show 1 ≤ T (w1 T n (x1 T n (x1 T n (x1 T n p)))) - 48; omega, by show T (w1 T n (x1 T n (x1 T n (x1 T n p)))) - 48 ≤ 9; omega⟩, fun z => (by cases z)⟩⟩
        · rw [if_neg y]; exact ⟨Or.inr (Or.inl rfl), fun _ => by show w1 T n (x1 T n (x1 T n (x1 T n p))) ≤ n; omega, fun z => (by cases z)⟩
      · rw [if_neg k0]
        exact ⟨Or.inr (Or.inr rfl), fun z => (by cases z), fun _ => ⟨by show p + 1 ≤ x1 T n (x1 T n (x1 T n p)); omega, by show x1 T n (x1 T n (x1 T n p)) ≤ n; omega, by show k ≤ 4; omega, fun _ => ⟨by show T (w1 T n (x1 T n p)) - 97 ≤ 8; omega, by show T (w1 T n (x1 T n (x1 T n p))) - 97 ≤ 8; omega⟩, fun z => absurd z k0, fun z => absurd z d4⟩⟩
    · rw [if_neg v]; exact ⟨Or.inr (Or.inl rfl), fun _ => by show w1 T n (x1 T n (x1 T n p)) ≤ n; omega, fun z => (by cases z)⟩
  · rw [if_neg u]; exact ⟨Or.inr (Or.inl rfl), fun _ => by show w1 T n (x1 T n p) ≤ n; omega, fun z => (by cases z)⟩
