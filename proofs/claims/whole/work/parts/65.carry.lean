/-! carrying out a command -/
theorem gFind_none {g : AN} (hg : gOK g) {a b : Nat} (h : gN g ≤ a ∨ gN g ≤ b ∨ a = b) : gFind g a b = none := by
  cases e : gFind g a b with
  | none => rfl
  | some j =>
    exfalso
    obtain ⟨h1, h2, h3⟩ := fst1_some e
    have h4 := hg.2.2.2.2 j (by omega)
    have h5 : gLo g j = min a b ∧ gHi g j = max a b := of_decide_eq_true h3
    omega
theorem M_find_same_b {g : AN} {w : Nat → Int32} {a : Nat} (hg : gOK g) (ha : a < 100) (hr : RM w g) : ∀ (m i fuel : Nat), i + m = gK g → m < fuel → f_X6_linkOf_b2 fuel (nI a) (nI a) (nI i) w = some (-9)
  | 0, i, fuel, h1, h2 => by
    obtain ⟨n, rfl⟩ : ∃ n, fuel = n + 1 := ⟨fuel - 1, by omega⟩
    have hk := hg.2.2.1
    rw [f_X6_linkOf_b2, c1, hr.2.1, t_le (by omega) (by omega), if_pos (by omega)]
  | m + 1, i, fuel, h1, h2 => by
    obtain ⟨n, rfl⟩ : ∃ n, fuel = n + 1 := ⟨fuel - 1, by omega⟩
    have ih := M_find_same_b hg ha hr m (i + 1) n (by omega) (by omega)
    have hi : i < gK g := by omega
    have hk := hg.2.2.1
    have h9 := hg.2.1
    obtain ⟨e1, e2, -⟩ := hr.2.2.2 i hi
    obtain ⟨s1, s2, -⟩ := hg.2.2.2.2 i hi
    rw [f_X6_linkOf_b2, c1, hr.2.1, t_le (by omega) (by omega), if_neg (by omega), M_of0 (by omega), M_of1 (by omega)]
    unfold f_X6_linkOf_b32
    rw [M_of0 (by omega), M_of1 (by omega), e1, e2, nI_1]
    simp only [Option.bind_some, n_eq (show gLo g i < 2147483648 by omega) (show a < 2147483648 by omega), n_eq (show gHi g i < 2147483648 by omega) (show a < 2147483648 by omega)]
    rw [ih]
    by_cases q1 : gLo g i = a
    · rw [if_pos q1, if_neg (show ¬ gHi g i = a by omega), if_pos q1, if_neg (show ¬ gHi g i = a by omega)]
    · rw [if_neg q1, if_neg q1]
theorem M_find_same {g : AN} {w : Nat → Int32} {a : Nat} (hg : gOK g) (ha : a < 100) (hr : RM w g) : f_X6_linkOf (nI a) (nI a) w = some (-9) := M_find_same_b hg ha hr (gK g) 0 1000 (by omega) (by have := hg.2.2.1; omega)
theorem S_carry {g : AN} {v : NV} {w cs : Nat → Int32} {i : Nat} {q : PC} {kd fi se dg : Int32} (hg : gOK g) (hr : RC v g) (hw : RM w g) (hi : i < 80) (hc : CS cs i q) (hk4 : q.2.1 ≤ 4) (hab : q.2.1 ≠ 4 → q.2.2.1 ≤ 8 ∧ q.2.2.2.1 ≤ 8) (hd0 : q.2.1 = 0 → 1 ≤ q.2.2.2.2.1 ∧ q.2.2.2.2.1 ≤ 9) (hd4 : q.2.1 = 4 → 2 ≤ q.2.2.2.2.1 ∧ q.2.2.2.2.1 ≤ 9) (ekd : kd = nI q.2.1) (eab : q.2.1 ≠ 4 → fi = nI q.2.2.1 ∧ se = nI q.2.2.2.1) (edg : q.2.1 = 0 ∨ q.2.1 = 4 → dg = nI q.2.2.2.2.1) :
    ∃ (ok : Bool) (n' k' A' I' : Int32) (lo' hi' ln' w' : Nat → Int32) (g' : AN), f_X3_carryOut kd fi se dg v.1 v.2.1 v.2.2.2.1 v.2.2.2.2.1 v.2.2.2.2.2.1 v.2.2.2.2.2.2.1 v.2.2.2.2.2.2.2 = some (b01 ok, n', k', A', I', lo', hi', ln') ∧ f_X6_carriesOut (nI i) w cs = some (b01 ok, w') ∧ (ok = true → gOK g' ∧ RC (n', k', v.2.2.1, A', I', lo', hi', ln') g' ∧ RM w' g') := by
  obtain ⟨tg, k, a, b, d, ps⟩ := q
  have hk4 : k ≤ 4 := hk4
  have hab : k ≠ 4 → a ≤ 8 ∧ b ≤ 8 := hab
  have hd0 : k = 0 → 1 ≤ d ∧ d ≤ 9 := hd0
  have hd4 : k = 4 → 2 ≤ d ∧ d ≤ 9 := hd4
  have ekd : kd = nI k := ekd
  have eab : k ≠ 4 → fi = nI a ∧ se = nI b := eab
  have edg : k = 0 ∨ k = 4 → dg = nI d := edg
  have c0' : cs (4 * i) = nI k := hc.1
  have c1' : k ≠ 4 → cs (4 * i + 1) = nI a ∧ cs (4 * i + 2) = nI b := hc.2.1
  have c2' : k = 0 → cs (4 * i + 3) = nI d := hc.2.2.1
  have c3' : k = 4 → cs (4 * i + 1) = nI d := hc.2.2.2
  have h9 := hg.2.1
  have hk := hg.2.2.1
  obtain ⟨r1, r2, r3, r4, r5, r6⟩ := id hr
  subst ekd
  unfold f_X3_carryOut f_X6_carriesOut
  rw [l4, n_mul, l1, l2, l3, n_add, n_add, n_add, t_inb (by omega), if_pos (show 4 * i + 1 < 320 by omega), t_inb (by omega), if_pos (show 4 * i + 2 < 320 by omega), t_inb (by omega), if_pos (show 4 * i < 320 by omega), t_inb (by omega), if_pos (show 4 * i + 3 < 320 by omega), n_cl (by omega), n_cl (by omega), n_cl (by omega), n_cl (by omega), c0', l0, t_eq (by omega) (by omega), t_eq (by omega) (by omega), t_eq (by omega) (by omega), t_eq (by omega) (by omega)]
  by_cases d4 : k = 4
  · rw [if_pos d4, if_neg (show ¬ k = 0 by omega), if_pos d4, edg (Or.inr d4), c3' d4, n_cl (by omega), n_cl (by omega)]
    obtain ⟨y1, y2⟩ := hd4 d4
    exact ⟨true, _, _, _, _, _, _, _, _, gClear g d, rfl, rfl, fun _ => ⟨gClear_ok hg y1 y2, ⟨rfl, rfl, r3, Msk.zero _, Msk.zero _, fun i hi => absurd hi (Nat.not_lt_zero _)⟩, hw.clear d⟩⟩
  obtain ⟨ea, eb⟩ := eab d4
  obtain ⟨ca, cb⟩ := c1' d4
  obtain ⟨la, lb⟩ := hab d4
  subst ea eb
  rw [if_neg d4, if_neg d4, ca, cb]
  by_cases d0 : k = 0
  · obtain ⟨y1, y2⟩ := hd0 d0
    rw [if_pos d0, if_pos d0, edg (Or.inl d0), c2' d0]
    obtain ⟨r, e1, e2, h⟩ := S_refuse (len := v.2.2.2.2.2.2.2) hg hr.cl hw (nI a) (nI b) (nI d)
    rw [r1, r2, e1, e2, Option.bind_some, Option.bind_some, ← r1, ← r2]
    unfold f_X6_carriesOut_b57
    rcases h with ⟨-, n0, -⟩ | ⟨rfl, a', b', l, q1, q2, q3, ha, hb, hab', hl1, hl9, hkk⟩
    · rw [if_neg (show ¬ r = nI 0 from n0), if_neg (show ¬ r = nI 0 from n0), if_pos (show nI 0 = 0 from rfl), if_pos (show isb (nI 0) = true from isb_0)]
      exact ⟨false, _, _, _, _, _, _, _, _, g, rfl, rfl, fun q => by cases q⟩
    · have qa : a = a' := by rw [n_eq (by omega) (by omega)] at q1; exact q1
      have qb : b = b' := by rw [n_eq (by omega) (by omega)] at q2; exact q2
      have ql : d = l := by rw [n_eq (by omega) (by omega)] at q3; exact q3
      subst qa qb ql
      obtain ⟨A', I', lo', hi', ln', a1, a2⟩ := C_append (l := d) hr (show a < 9 by omega) (show b < 9 by omega) hab' hkk
      obtain ⟨w', m1, m2⟩ := M_append (l := d) hw (show a < 9 by omega) (show b < 9 by omega) hab' hkk
      rw [if_pos (show (0 : Int32) = nI 0 from rfl), if_pos (show (0 : Int32) = nI 0 from rfl), a1, Option.bind_some, if_neg (show ¬ nI 1 = 0 from ne10), l4, l3, n_mul, n_add, t_inb (by omega), if_pos (show 4 * i + 3 < 320 by omega), n_cl (by omega), c2' d0, m1, Option.bind_some, if_pos (show isb (nI 1) = true from isb_1)]
      exact ⟨true, _, _, _, _, _, _, _, _, _, rfl, rfl, fun _ => ⟨gApp_ok hg ha hb hab' hl1 hl9 hkk, a2, m2⟩⟩
  rw [if_neg d0, if_neg d0, r2, C_find hk (by omega) (by omega) (fun i hi => by have := hg.2.2.2.2 i hi; omega) (fun i hi => ⟨(r6 i hi).1, (r6 i hi).2.1⟩), Option.bind_some, ← r2]
  -- the reference looks the link up
  have hM : ((f_X6_isNode (nI a) w).bind fun r_6 => if r_6 = nI 0 then f_X6_carriesOut_b138 (nI i) (-9) w cs else (f_X6_isNode (nI b) w).bind fun r_9 => if r_9 = nI 0 then f_X6_carriesOut_b138 (nI i) (-9) w cs else (f_X6_linkOf (nI a) (nI b) w).bind fun r_12 => f_X6_carriesOut_b138 (nI i) r_12 w cs) = f_X6_carriesOut_b138 (nI i) (enI (-9) (gFind g a b)) w cs := by
    rw [M_isNode hw.1 (by omega) (by omega), M_isNode hw.1 (by omega) (by omega), Option.bind_some, Option.bind_some]
    by_cases ha : a < gN g
    · rw [if_pos ha, if_neg (show ¬ (1 : Int32) = nI 0 from ne10)]
      by_cases hb : b < gN g
      · rw [if_pos hb, if_neg (show ¬ (1 : Int32) = nI 0 from ne10)]
        by_cases hab' : a = b
        · subst hab'
          rw [M_find_same hg (by omega) hw, gFind_none hg (Or.inr (Or.inr rfl))]
          rfl
        · rw [M_find hg (by omega) (by omega) hab' hw]
          rfl
      · rw [if_neg hb, if_pos (show (0 : Int32) = nI 0 from rfl), gFind_none hg (Or.inr (Or.inl (by omega)))]
        rfl
    · rw [if_neg ha, if_pos (show (0 : Int32) = nI 0 from rfl), gFind_none hg (Or.inl (by omega))]
      rfl
  rw [hM]
  unfold f_X6_carriesOut_b138
  cases hf : gFind g a b with
  | none =>
    rw [enI_none, enI_none, if_pos (show (-1 : Int32) = -nI 1 from rfl), if_pos (show (-9 : Int32) = -9 from rfl)]
    exact ⟨false, _, _, _, _, _, _, _, _, g, rfl, rfl, fun q => by cases q⟩
  | some l =>
    have hl : l < gK g := by have := fst1_some hf; omega
    obtain ⟨z1, z2, z3, z4, z5⟩ := hw.2.2.2 l hl
    rw [enI_some, enI_some, if_neg (show ¬ nI l = -nI 1 from n_ne (by omega) (by decide)), if_neg (show ¬ nI l = (-9 : Int32) from n_ne (by omega) (by decide)), l4, l3, l5, l2, n_mul, n_mul, n_add, n_add, n_add, t_inb (by omega), if_pos (show 4 * i < 320 by omega), t_inb (by omega), if_pos (show 3 + 5 * l + 3 < 93 by omega), t_inb (by omega), if_pos (show 3 + 5 * l + 4 < 93 by omega), n_cl (by omega), n_cl (by omega), n_cl (by omega), c0', t_eq (by omega) (by omega), t_eq (by omega) (by omega), show 3 + 5 * l + 3 = 6 + 5 * l by omega, show 3 + 5 * l + 4 = 7 + 5 * l by omega, z4]
    unfold f_X3_changeLink
    rw [l1, l2, t_eq (by omega) (by omega), t_eq (by omega) (by omega)]
    by_cases k3 : k = 3
    · rw [if_pos k3, if_neg (show ¬ k = 1 by omega), if_neg (show ¬ k = 2 by omega), p_bit' _ (by omega), r4.at hk hl]
      exact ⟨true, _, _, _, _, _, _, _, _, gSetMp g (va_up (gMp g) l (gAl g l)), rfl, rfl, fun _ => ⟨hg, ⟨r1, r2, r3, r4, r5.set hk hl _, r6⟩, hw.mp hl _⟩⟩
    · rw [if_neg k3]
      by_cases k2 : k = 2
      · rw [if_pos k2, if_neg (show ¬ k = 1 by omega), if_pos k2, t_inb (by omega), if_pos (show 6 + 5 * l < 93 by omega)]
        exact ⟨true, _, _, _, _, _, _, _, _, gSetAl g (va_up (gAl g) l true), rfl, rfl, fun _ => ⟨hg, ⟨r1, r2, r3, r4.set hk hl true, r5, r6⟩, hw.al hl true⟩⟩
      · rw [if_neg k2, if_pos (show k = 1 by omega), if_neg k2, t_inb (by omega), if_pos (show 6 + 5 * l < 93 by omega)]
        exact ⟨true, _, _, _, _, _, _, _, _, gSetAl g (va_up (gAl g) l false), rfl, rfl, fun _ => ⟨hg, ⟨r1, r2, r3, r4.set hk hl false, r5, r6⟩, hw.al hl false⟩⟩
