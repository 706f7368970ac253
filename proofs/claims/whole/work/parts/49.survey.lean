/-! tests of arguments, on both sides -/
theorem chk_node {g : AN} {w : Nat → Int32} (hn : gN g ≤ 9) (hw : RM w g) (p : Int32) : (f_X1_hasNode p (nI (gN g)) = 0 ∧ f_X6_isNode p w = some 0) ∨ ∃ j, j < gN g ∧ p = nI j ∧ f_X1_hasNode p (nI (gN g)) = 1 ∧ f_X6_isNode p w = some 1 := by
  rcases p_split p with h | ⟨j, hj, e⟩
  · exact Or.inl ⟨C_hasNode_neg h, M_isNode_neg h⟩
  · subst e
    have a := C_hasNode hj (show gN g < 2147483648 by omega)
    have b := M_isNode hw.1 hj (show gN g < 2147483648 by omega)
    by_cases q : j < gN g
    · rw [if_pos q] at a b; exact Or.inr ⟨j, q, rfl, a, b⟩
    · rw [if_neg q] at a b; exact Or.inl ⟨a, b⟩
theorem chk_link {g : AN} {w : Nat → Int32} (hk : gK g ≤ 18) (hw : RM w g) (p : Int32) : (f_X1_hasLink p (nI (gK g)) = 0 ∧ f_X6_isLink p w = some 0) ∨ ∃ j, j < gK g ∧ p = nI j ∧ f_X1_hasLink p (nI (gK g)) = 1 ∧ f_X6_isLink p w = some 1 := by
  rcases p_split p with h | ⟨j, hj, e⟩
  · exact Or.inl ⟨C_hasLink_neg h, M_isLink_neg h⟩
  · subst e
    have a := C_hasLink hj (show gK g < 2147483648 by omega)
    have b := M_isLink hw.2.1 hj (show gK g < 2147483648 by omega)
    by_cases q : j < gK g
    · rw [if_pos q] at a b; exact Or.inr ⟨j, q, rfl, a, b⟩
    · rw [if_neg q] at a b; exact Or.inl ⟨a, b⟩
theorem chk_in (p : Int32) {a b : Nat} (ha : a < 2147483648) (hb : b < 2147483648) : (f_X6_isIn p (nI a) (nI b) = 0 ∧ (p < nI a ∨ nI b < p)) ∨ ∃ j, a ≤ j ∧ j ≤ b ∧ p = nI j ∧ f_X6_isIn p (nI a) (nI b) = 1 := by
  rcases p_split p with h | ⟨j, hj, e⟩
  · refine Or.inl ⟨n_isIn_neg h ha, Or.inl ?_⟩
    have := i_neg h
    have := n_toInt ha
    rw [i_lt]
    omega
  · subst e
    have q := n_isIn hj ha hb
    by_cases c : a ≤ j ∧ j ≤ b
    · rw [if_pos c] at q; exact Or.inr ⟨j, c.1, c.2, rfl, q⟩
    · rw [if_neg c] at q
      refine Or.inl ⟨q, ?_⟩
      rw [n_lt hj ha, n_lt hb hj]
      omega
theorem chk_flag (p : Int32) : (f_X5_isFlag p = 0 ∧ f_X6_isIn p 0 1 = 0) ∨ ∃ b : Bool, p = b01 b ∧ f_X5_isFlag p = 1 ∧ f_X6_isIn p 0 1 = 1 := by
  by_cases h0 : p = 0
  · subst h0; exact Or.inr ⟨false, rfl, by decide, by decide⟩
  · by_cases h1 : p = 1
    · subst h1; exact Or.inr ⟨true, rfl, by decide, by decide⟩
    · refine Or.inl ⟨by unfold f_X5_isFlag; rw [if_neg h0, if_neg h1], ?_⟩
      rcases chk_in p (a := 0) (b := 1) (by omega) (by omega) with ⟨e, -⟩ | ⟨j, q1, q2, e, -⟩
      · exact e
      · exfalso
        rcases Nat.lt_or_ge j 1 with c | c
        · have : j = 0 := by omega
          subst this; exact h0 e
        · have : j = 1 := by omega
          subst this; exact h1 e
theorem ne10 : ¬ (1 : Int32) = 0 := by decide
theorem ne01 : ¬ (0 : Int32) = 1 := by decide
theorem pk_rem2 {a : Nat} (ha : a < 2 ^ 31) : nI a - nI (a / 16) * nI 16 = nI (a % 16) := by
  rw [← pk_div ha (d := 16) (by omega) (by omega)]
  exact pk_rem ha (by omega) (by omega)
/-! leadsFrom, lengthFrom, linksFrom -/
theorem cv_lt {v : Nat} (h : v ≤ 1000000) : (1048576 ≤ cv v) ↔ ¬ v < 1000000 := by
  unfold cv
  by_cases e : v = 1000000
  · rw [if_pos e]; omega
  · rw [if_neg e]; omega
theorem C_leads {g : AN} {use : Nat → Bool} {t s : Nat} {far : Nat → Int32} (hs : s < 9) (hE : E9 far (fun x => cv (DD g use t x))) : f_X4_leadsFrom (nI s) far = some (b01 (decide (DD g use t s < 1000000))) := by
  have h1 := DD_le (g := g) (use := use) (t := t) (x := s)
  have h2 := cv_le _ h1
  unfold f_X4_leadsFrom
  rw [t_inb (by omega), if_pos hs, n_cl (by omega), show far s = nI (cv (DD g use t s)) from hE s hs, lunr, t_le (by omega) (by omega)]
  have h3 := cv_lt h1
  by_cases c : DD g use t s < 1000000
  · rw [if_neg (fun q => h3.mp q c)]; simp [c]; rfl
  · rw [if_pos (h3.mpr c)]; simp [c]; rfl
theorem C_length {g : AN} {use : Nat → Bool} {t s : Nat} {far : Nat → Int32} (hs : s < 9) (hE : E9 far (fun x => cv (DD g use t x))) : f_X4_lengthFrom (nI s) far = some (nI (cv (DD g use t s) / 16)) := by
  have h1 := DD_le (g := g) (use := use) (t := t) (x := s)
  have h2 := cv_le _ h1
  unfold f_X4_lengthFrom
  rw [t_inb (by omega), if_pos hs, n_cl (by omega), show far s = nI (cv (DD g use t s)) from hE s hs, pk_shrN (by omega) ((4 : Int32) &&& (31 : Int32)) 4 (by decide)]
theorem C_links {g : AN} {use : Nat → Bool} {t s : Nat} {far : Nat → Int32} (hs : s < 9) (hE : E9 far (fun x => cv (DD g use t x))) : f_X4_linksFrom (nI s) far = some (nI (cv (DD g use t s) % 16)) := by
  have h1 := DD_le (g := g) (use := use) (t := t) (x := s)
  have h2 := cv_le _ h1
  unfold f_X4_linksFrom
  rw [t_inb (by omega), if_pos hs, n_cl (by omega), show far s = nI (cv (DD g use t s)) from hE s hs, pk_andN (by omega) (m := (15 : Int32)) 4 (by decide)]
theorem M_true {g : AN} {w may least : Nat → Int32} {t : Nat} (hg : gLinks g) (hw : RM w g) (ht : t < gN g) : ∃ may' least' : Nat → Int32, f_X6_layTrue (nI t) (-9) w may least = some (may', least') ∧ (∀ j, j < gK g → may' j = b01 (gAl g j)) ∧ E9 least' (DD g (gAl g) t) := by
  obtain ⟨m', l', a, b, c⟩ := M_layTrue (may := may) (least := least) none (fun j h => by cases h) hg hw ht
  have e : DD g (unl g none) t = DD g (gAl g) t := DD_congr (fun i _ => unl_none g i) t
  exact ⟨m', l', a, fun j hj => by rw [b j hj, unl_none], by rw [← e]; exact c⟩
/-! way -/
theorem S_way {g : AN} {A yu : Int32} {low high len far w may least : Nat → Int32} (hg : gLinks g) (hr : CL low high len g) (hA : ∀ i, i < gK g → bt A i = gAl g i) (hw : RM w g) (p1 p2 p3 : Int32) : ∃ (r : Int32) (far' : Nat → Int32) (yu' : Int32) (may' least' : Nat → Int32), f_X5_way p1 p2 p3 (nI (gN g)) (nI (gK g)) A low high len far yu = some (r, far', yu') ∧ f_X6_way p1 p2 p3 w may least = some (r, may', least') := by
  have h9 := hg.1
  unfold f_X5_way f_X6_way
  rcases chk_node hg.1 hw p1 with ⟨e1, e2⟩ | ⟨s, hs, rfl, e1, e2⟩
  · rw [e1, if_pos rfl, e2, Option.bind_some, if_pos rfl]; exact ⟨_, _, _, _, _, rfl, rfl⟩
  rw [e1, if_neg ne10, e2, Option.bind_some, if_neg ne10]
  rcases chk_node hg.1 hw p2 with ⟨e3, e4⟩ | ⟨t, ht, rfl, e3, e4⟩
  · rw [e3, if_pos rfl, e4, Option.bind_some, if_pos rfl]; exact ⟨_, _, _, _, _, rfl, rfl⟩
  rw [e3, if_neg ne10, e4, Option.bind_some, if_neg ne10]
  by_cases h3 : ¬ (-2 : Int32) ≤ p3
  · rw [if_neg h3, if_neg h3]; exact ⟨_, _, _, _, _, rfl, rfl⟩
  have h3 := Classical.not_not.mp h3
  rw [if_pos h3, if_pos h3]
  obtain ⟨far', m1, m2⟩ := C_meas (U := A) (yu := yu) (far := far) hg hr ht hA
  obtain ⟨may', least', n1, n2, n3⟩ := M_true (may := may) (least := least) hg hw ht
  have hD := DD_le (g := g) (use := gAl g) (t := t) (x := s)
  have hE := n3 s (by omega)
  rw [m1, Option.bind_some, n1, Option.bind_some]
  dsimp only
  rw [C_leads (by omega) m2, Option.bind_some, b01_eq0, t_inb (by omega), if_pos (show s < 9 by omega), n_cl (by omega), hE, lfar, t_eq (by omega) (by omega), l16, pk_div (by omega) (by omega) (by omega), pk_rem2 (by omega)]
  by_cases c : ¬ DD g (gAl g) t s < 1000000
  · rw [if_neg (show ¬ decide (DD g (gAl g) t s < 1000000) = true by simpa using c), if_pos (show DD g (gAl g) t s = 1000000 by omega)]
    exact ⟨_, _, _, _, _, rfl, rfl⟩
  have c := Classical.not_not.mp c
  rw [if_pos (show decide (DD g (gAl g) t s < 1000000) = true by simpa using c), if_neg (show ¬ DD g (gAl g) t s = 1000000 by omega), C_links (by omega) m2, Option.bind_some, cv_r c]
  have h8 := (dd_spec hg (gAl g) ht).2.2.2.2 s c
  rcases p_split p3 with hneg | ⟨k, hk, rfl⟩
  · have i1 := i_neg hneg
    have i2 := n_toInt (show DD g (gAl g) t s % 16 < 2147483648 by omega)
    rw [if_pos (show p3 ≤ nI (DD g (gAl g) t s % 16) by rw [i_le]; omega), if_neg (show ¬ (0 : Int32) ≤ p3 by rw [i_le]; have : (0 : Int32).toInt = 0 := rfl; omega), C_length (by omega) m2, cv_r c, Option.bind_some, Option.bind_some]
    by_cases q : p3 = -1
    · rw [if_pos q, if_pos q]; exact ⟨_, _, _, _, _, rfl, rfl⟩
    · have q2 : p3 = -2 := by
        rw [i_le] at h3
        have z2 : (-2 : Int32).toInt = -2 := by decide
        have z1 : (-1 : Int32).toInt = -1 := by decide
        rw [i_eq] at q ⊢
        omega
      rw [if_neg q, if_neg q, if_pos q2]
      exact ⟨_, _, _, _, _, rfl, rfl⟩
  · rw [t_le (by omega) (by omega), l0, t_le (by omega) (by omega), if_pos (Nat.zero_le k), t_le (by omega) (by omega)]
    by_cases q : k ≤ DD g (gAl g) t s % 16
    · rw [if_pos q, if_pos q, if_neg (show ¬ nI k = (-1 : Int32) from n_ne hk (by decide)), if_neg (show ¬ nI k = (-2 : Int32) from n_ne hk (by decide))]
      obtain ⟨y, y1, y2, y3⟩ := way_both hg hr hw ht hA n2 m2 n3 (k := k) (by omega) k 0 1000 1000 s (by omega) (by omega) (by omega) c q
      unfold f_X4_nodeAfter
      rw [l0, y2, Option.bind_some, y3]
      exact ⟨_, _, _, _, _, rfl, rfl⟩
    · rw [if_neg q, if_neg q]; exact ⟨_, _, _, _, _, rfl, rfl⟩
