/-! the reference reads -/
theorem isWd_len {T : Nat → Nat} {s e : Nat} {L : List Nat} (h : ¬ e = s + L.length) : isWd T s e L = false := by unfold isWd; rw [decide_eq_false h, Bool.false_and]
theorem isWd_eq {T : Nat → Nat} {s e : Nat} {L : List Nat} (h : e = s + L.length) : isWd T s e L = isW T s L := by unfold isWd; rw [decide_eq_true h, Bool.true_and]
def mk0 (T : Nat → Nat) (s e : Nat) : Int32 := if e = s + 1 then (if 97 ≤ T s ∧ T s ≤ 105 then 20 else if 49 ≤ T s ∧ T s ≤ 57 then 21 else -9) else (if kw T s e = 5 then -9 else nI (kw T s e))
theorem M_is {c : Nat → Int32} {T : Nat → Nat} {n s : Nat} {a b d : Nat} (h : TX c T n) (hs : s + 3 ≤ n) (ha : a < 1000) (hb : b < 1000) (hd : d < 1000) : f_X6_is (nI s) (nI a) (nI b) (nI d) c = some (b01 (isW T s [a, b, d])) := by
  have hn := h.1
  obtain ⟨p1, p2, p3⟩ := h.2 s (by omega)
  obtain ⟨q1, q2, q3⟩ := h.2 (s + 1) (by omega)
  obtain ⟨r1, r2, r3⟩ := h.2 (s + 2) (by omega)
  unfold f_X6_is
  rw [l1, l2, n_add, n_add, t_inb (by omega), if_pos (show s < 80 by omega), t_inb (by omega), if_pos (show s + 1 < 80 by omega), t_inb (by omega), if_pos (show s + 2 < 80 by omega), n_cl (by omega), n_cl (by omega), n_cl (by omega), p1, q1, r1, t_eq (by omega) (by omega), t_eq (by omega) (by omega), t_eq (by omega) (by omega)]
  show _ = some (b01 (decide (T s = a) && (decide (T (s + 1) = b) && (decide (T (s + 2) = d) && true))))
  by_cases u : T s = a
  · rw [if_pos u, decide_eq_true u]
    by_cases v : T (s + 1) = b
    · rw [if_pos v, decide_eq_true v]
      by_cases w : T (s + 2) = d
      · rw [if_pos w, decide_eq_true w]; rfl
      · rw [if_neg w, decide_eq_false w]; rfl
    · rw [if_neg v, decide_eq_false v]; rfl
  · rw [if_neg u, decide_eq_false u]; rfl
theorem isW_4 (T : Nat → Nat) (s a b c d : Nat) : isW T s [a, b, c, d] = (isW T s [a, b, c] && decide (T (s + 3) = d)) := by
  show (decide (T s = a) && (decide (T (s + 1) = b) && (decide (T (s + 2) = c) && (decide (T (s + 3) = d) && true)))) = ((decide (T s = a) && (decide (T (s + 1) = b) && (decide (T (s + 2) = c) && true))) && decide (T (s + 3) = d))
  simp [Bool.and_assoc]
theorem isW_5 (T : Nat → Nat) (s a b c d e : Nat) : isW T s [a, b, c, d, e] = (isW T s [a, b, c] && (decide (T (s + 3) = d) && decide (T (s + 4) = e))) := by
  show (decide (T s = a) && (decide (T (s + 1) = b) && (decide (T (s + 2) = c) && (decide (T (s + 3) = d) && (decide (T (s + 4) = e) && true))))) = ((decide (T s = a) && (decide (T (s + 1) = b) && (decide (T (s + 2) = c) && true))) && (decide (T (s + 3) = d) && decide (T (s + 4) = e)))
  simp [Bool.and_assoc]
theorem M_kindOf {c : Nat → Int32} {T : Nat → Nat} {n s e : Nat} (h : TX c T n) (hs : s < e) (he : e ≤ n) : f_X6_kindOf (nI s) (nI e) c = some (mk0 T s e) := by
  have hn := h.1
  obtain ⟨p1, p2, p3⟩ := h.2 s (by omega)
  unfold f_X6_kindOf mk0
  rw [nI_1, t_eq (by omega) (by omega), n_sub (by omega)]
  by_cases d1 : e = s + 1
  · rw [if_pos d1, if_pos d1, t_inb (by omega), if_pos (show s < 80 by omega), n_cl (by omega), p1, show (97 : Int32) = nI 97 from rfl, show (105 : Int32) = nI 105 from rfl, show (49 : Int32) = nI 49 from rfl, show (57 : Int32) = nI 57 from rfl, n_isIn (by omega) (by omega) (by omega), n_isIn (by omega) (by omega) (by omega)]
    by_cases u : 97 ≤ T s ∧ T s ≤ 105
    · rw [if_pos u, if_pos u, if_neg ne10]
    · rw [if_neg u, if_neg u, if_pos (show (0 : Int32) = 0 from rfl)]
      by_cases v : 49 ≤ T s ∧ T s ≤ 57
      · rw [if_pos v, if_pos v, if_neg ne10]
      · rw [if_neg v, if_neg v, if_pos (show (0 : Int32) = 0 from rfl)]
  rw [if_neg d1, if_neg d1, l3, t_eq (by omega) (by omega)]
  by_cases d3 : e - s = 3
  · have f0 : isWd T s e kW0 = false := isWd_len (by show ¬ e = s + 4; omega)
    have f3 : isWd T s e kW3 = false := isWd_len (by show ¬ e = s + 5; omega)
    have f4 : isWd T s e kW4 = false := isWd_len (by show ¬ e = s + 4; omega)
    have f1 : isWd T s e kW1 = isW T s [99, 117, 116] := isWd_eq (by show e = s + 3; omega)
    have f2 : isWd T s e kW2 = isW T s [102, 105, 120] := isWd_eq (by show e = s + 3; omega)
    rw [if_pos d3, show f_X6_is (nI s) 99 117 116 c = _ from M_is (a := 99) (b := 117) (d := 116) h (by omega) (by omega) (by omega) (by omega), show f_X6_is (nI s) 102 105 120 c = _ from M_is (a := 102) (b := 105) (d := 120) h (by omega) (by omega) (by omega) (by omega), Option.bind_some, Option.bind_some, b01_eq0, b01_eq0]
    unfold kw
    rw [f0, f1, f2, f3, f4]
    cases isW T s [99, 117, 116] <;> cases isW T s [102, 105, 120] <;> rfl
  rw [if_neg d3, l4, t_eq (by omega) (by omega)]
  by_cases d4 : e - s = 4
  · have f0 : isWd T s e kW0 = isW T s [108, 105, 110, 107] := isWd_eq (by show e = s + 4; omega)
    have f4 : isWd T s e kW4 = isW T s [115, 105, 122, 101] := isWd_eq (by show e = s + 4; omega)
    have f1 : isWd T s e kW1 = false := isWd_len (by show ¬ e = s + 3; omega)
    have f2 : isWd T s e kW2 = false := isWd_len (by show ¬ e = s + 3; omega)
    have f3 : isWd T s e kW3 = false := isWd_len (by show ¬ e = s + 5; omega)
    obtain ⟨q1, q2, q3⟩ := h.2 (s + 3) (by omega)
    have b136 : f_X6_kindOf_b136 (nI s) c = some (if isW T s [115, 105, 122, 101] = true then 4 else -9) := by
      unfold f_X6_kindOf_b136
      rw [show f_X6_is (nI s) 115 105 122 c = _ from M_is (a := 115) (b := 105) (d := 122) h (by omega) (by omega) (by omega) (by omega), Option.bind_some, b01_eq0, l3, n_add, t_inb (by omega), if_pos (show s + 3 < 80 by omega), n_cl (by omega), q1, show (101 : Int32) = nI 101 from rfl, t_eq (by omega) (by omega), isW_4]
      by_cases u : T (s + 3) = 101
      · rw [if_pos u, decide_eq_true u]; cases isW T s [115, 105, 122] <;> rfl
      · rw [if_neg u, decide_eq_false u]; cases isW T s [115, 105, 122] <;> rfl
    rw [if_pos d4, show f_X6_is (nI s) 108 105 110 c = _ from M_is (a := 108) (b := 105) (d := 110) h (by omega) (by omega) (by omega) (by omega), Option.bind_some, b01_eq0, b136, n_add, t_inb (by omega), if_pos (show s + 3 < 80 by omega), n_cl (by omega), q1, show (107 : Int32) = nI 107 from rfl, t_eq (by omega) (by omega)]
    unfold kw
    rw [f0, f1, f2, f3, f4, isW_4 T s 108]
    by_cases u : T (s + 3) = 107
    · rw [if_pos u, decide_eq_true u]; cases isW T s [108, 105, 110] <;> cases isW T s [115, 105, 122, 101] <;> rfl
    · rw [if_neg u, decide_eq_false u]; cases isW T s [108, 105, 110] <;> cases isW T s [115, 105, 122, 101] <;> rfl
  rw [if_neg d4, l5, t_eq (by omega) (by omega)]
  have f0 : isWd T s e kW0 = false := isWd_len (by show ¬ e = s + 4; omega)
  have f4 : isWd T s e kW4 = false := isWd_len (by show ¬ e = s + 4; omega)
  have f1 : isWd T s e kW1 = false := isWd_len (by show ¬ e = s + 3; omega)
  have f2 : isWd T s e kW2 = false := isWd_len (by show ¬ e = s + 3; omega)
  by_cases d5 : e - s = 5
  · have f3 : isWd T s e kW3 = isW T s [108, 101, 97, 114, 110] := isWd_eq (by show e = s + 5; omega)
    obtain ⟨q1, q2, q3⟩ := h.2 (s + 3) (by omega)
    obtain ⟨r1, r2, r3⟩ := h.2 (s + 4) (by omega)
    rw [if_pos d5, show f_X6_is (nI s) 108 101 97 c = _ from M_is (a := 108) (b := 101) (d := 97) h (by omega) (by omega) (by omega) (by omega), Option.bind_some, b01_eq0, n_add, n_add, t_inb (by omega), if_pos (show s + 3 < 80 by omega), t_inb (by omega), if_pos (show s + 4 < 80 by omega), n_cl (by omega), n_cl (by omega), q1, r1, show (114 : Int32) = nI 114 from rfl, show (110 : Int32) = nI 110 from rfl, t_eq (by omega) (by omega), t_eq (by omega) (by omega)]
    unfold kw
    rw [f0, f1, f2, f3, f4, isW_5]
    by_cases u : T (s + 3) = 114
    · by_cases v : T (s + 4) = 110
      · rw [if_pos u, if_pos v, decide_eq_true u, decide_eq_true v]; cases isW T s [108, 101, 97] <;> rfl
      · rw [if_pos u, if_neg v, decide_eq_true u, decide_eq_false v]; cases isW T s [108, 101, 97] <;> rfl
    · rw [if_neg u, decide_eq_false u]; cases isW T s [108, 101, 97] <;> rfl
  · have f3 : isWd T s e kW3 = false := isWd_len (by show ¬ e = s + 5; omega)
    rw [if_neg d5]
    unfold kw
    rw [f0, f1, f2, f3, f4]
    rfl
theorem kw_1 {T : Nat → Nat} {s : Nat} : kw T s (s + 1) = 5 := by
  unfold kw
  rw [isWd_len (L := kW0) (by show ¬ s + 1 = s + 4; omega), isWd_len (L := kW1) (by show ¬ s + 1 = s + 3; omega), isWd_len (L := kW2) (by show ¬ s + 1 = s + 3; omega), isWd_len (L := kW3) (by show ¬ s + 1 = s + 5; omega), isWd_len (L := kW4) (by show ¬ s + 1 = s + 4; omega)]
  rfl
/-! the words of read -/
abbrev k12r : Type := Int32 → Int32 → Int32 → (Nat → Int32) → Int32 → (Nat → Int32) → Int32 → Option (Int32 × (Nat → Int32) × Int32)
theorem M_rd23 {c : Nat → Int32} {T : Nat → Nat} {n s : Nat} {K : k12r} {x1 x2 cm : Int32} {cs : Nat → Int32} (h : TX c T n) : ∀ (m e fuel : Nat), e + m = n → m < fuel → f_X6_read_b23 K fuel x1 x2 (nI e) (nI s) c (nI n) cs cm = f_X6_read_b48 K x1 x2 (nI (wnd T m e)) (nI s) c (nI n) cs cm
  | 0, e, fuel, h1, h2 => by
    obtain ⟨k, rfl⟩ : ∃ k, fuel = k + 1 := ⟨fuel - 1, by omega⟩
    have hn := h.1
    rw [f_X6_read_b23, t_le (by omega) (by omega), if_pos (by omega), wnd]
  | m + 1, e, fuel, h1, h2 => by
    obtain ⟨k, rfl⟩ : ∃ k, fuel = k + 1 := ⟨fuel - 1, by omega⟩
    have hn := h.1
    obtain ⟨q1, q2, q3⟩ := h.2 e (by omega)
    rw [f_X6_read_b23, t_le (by omega) (by omega), if_neg (by omega), t_inb (by omega), if_pos (show e < 80 by omega), n_cl (by omega), q1, l32, t_eq (by omega) (by omega), wnd, nI_1]
    by_cases d : T e = 32
    · rw [if_pos d, if_pos d]
    · rw [if_neg d, if_neg d]; exact M_rd23 h m (e + 1) k (by omega) (by omega)
/-- over the blanks -/
theorem M_skip {c : Nat → Int32} {T : Nat → Nat} {n : Nat} {x1 x2 cm : Int32} {cs : Nat → Int32} (h : TX c T n) : ∀ (m p fuel : Nat), p + m = n → m < fuel → ∃ fuel', n - skp T m p < fuel' ∧ f_X6_read_b12 fuel x1 x2 (nI p) c (nI n) cs cm = f_X6_read_b12 fuel' x1 x2 (nI (skp T m p)) c (nI n) cs cm
  | 0, p, fuel, h1, h2 => ⟨fuel, by rw [skp]; omega, by rw [skp]⟩
  | m + 1, p, fuel, h1, h2 => by
    have hn := h.1
    rw [skp]
    by_cases d : T p = 32
    · rw [if_pos d]
      obtain ⟨k, rfl⟩ : ∃ k, fuel = k + 1 := ⟨fuel - 1, by omega⟩
      obtain ⟨f', g1, g2⟩ := M_skip (x1 := x1) (x2 := x2) (cm := cm) (cs := cs) h m (p + 1) k (by omega) (by omega)
      refine ⟨f', g1, ?_⟩
      rw [← g2, f_X6_read_b12, t_le (by omega) (by omega), if_neg (by omega), M_rd23 h (m + 1) p 1000 (by omega) (by omega), wnd, if_pos d]
      unfold f_X6_read_b48 f_X6_read_b205
      rw [t_le (by omega) (by omega), if_pos (Nat.le_refl p), t_le (by omega) (by omega), if_neg (by omega), nI_1]
    · rw [if_neg d]
      exact ⟨fuel, by omega, rfl⟩
/-- a word: where the reading is then -/
theorem M_word {c : Nat → Int32} {T : Nat → Nat} {n p fuel : Nat} {x1' x2' cm : Int32} {cs : Nat → Int32} (h : TX c T n) (hp : p ≤ n) (hf : n - p < fuel) (hs : w1 T n p < n) : ∃ fuel', n - x1 T n p < fuel' ∧ n - (x1 T n p + 1) < fuel' ∧ f_X6_read_b12 fuel x1' x2' (nI p) c (nI n) cs cm = f_X6_read_b48 (f_X6_read_b12 fuel') x1' x2' (nI (x1 T n p)) (nI (w1 T n p)) c (nI n) cs cm := by
  have hn := h.1
  obtain ⟨f1, g1, g2⟩ := M_skip (x1 := x1') (x2 := x2') (cm := cm) (cs := cs) h (n - p) p fuel (by omega) hf
  have hb := wsA_b (T := T) hp
  have hlt := weA_lt hs (hb.2.2 hs)
  have hwe := wx_le (T := T) hp
  have g1' : n - w1 T n p < f1 := g1
  obtain ⟨k, rfl⟩ : ∃ k, f1 = k + 1 := ⟨f1 - 1, by omega⟩
  have hlt' : w1 T n p < x1 T n p := hlt
  refine ⟨k, by omega, by omega, ?_⟩
  rw [g2]
  show f_X6_read_b12 (k + 1) x1' x2' (nI (w1 T n p)) c (nI n) cs cm = _
  rw [f_X6_read_b12, t_le (by omega) (by omega), if_neg (by omega), M_rd23 h (n - w1 T n p) (w1 T n p) 1000 (by omega) (by omega)]
  rfl
theorem M_noword {c : Nat → Int32} {T : Nat → Nat} {n p fuel : Nat} {x1' x2' cm : Int32} {cs : Nat → Int32} (h : TX c T n) (hp : p ≤ n) (hf : n - p < fuel) (hs : w1 T n p = n) : f_X6_read_b12 fuel x1' x2' (nI p) c (nI n) cs cm = if x1' = 0 then some (-9, cs, cm) else some (nI n, cs, cm) := by
  have hn := h.1
  obtain ⟨f1, g1, g2⟩ := M_skip (x1 := x1') (x2 := x2') (cm := cm) (cs := cs) h (n - p) p fuel (by omega) hf
  have e : skp T (n - p) p = n := hs
  rw [g2, e]
  rw [e] at g1
  obtain ⟨k, rfl⟩ : ∃ k, f1 = k + 1 := ⟨f1 - 1, by omega⟩
  rw [f_X6_read_b12, t_le (by omega) (by omega), if_pos (Nat.le_refl n)]
/-- behind a word -/
theorem M_b205 {c : Nat → Int32} {T : Nat → Nat} {n e fuel : Nat} {x1' x2' cm : Int32} {cs : Nat → Int32} (h : TX c T n) (he : e ≤ n) (hb : e < n → T e = 32) (hf : n - e < fuel) : ∃ p', p' ≤ n ∧ e ≤ p' ∧ n - p' < fuel ∧ wsA T n p' = wsA T n e ∧ f_X6_read_b205 (f_X6_read_b12 fuel) x1' x2' (nI e) c (nI n) cs cm = f_X6_read_b12 fuel x1' x2' (nI p') c (nI n) cs cm := by
  have hn := h.1
  unfold f_X6_read_b205
  rw [t_le (by omega) (by omega), n_add0, nI_1]
  by_cases d : n ≤ e
  · rw [if_pos d]; exact ⟨e, he, Nat.le_refl _, hf, rfl, rfl⟩
  · rw [if_neg d]; exact ⟨e + 1, by omega, by omega, by omega, wsA_next (by omega) (hb (by omega)), rfl⟩
