/-! the latest letter -/
def LR (K : Nat) (sent fits ts tc tca tp tk tl tld : Int32) (tv tml tmh : Nat → Int32) (old : Int32) (kept klo khi : Nat → Int32) (km : Int32) (kn nums : Nat → Int32) : Prop :=
  sent = 0 ∨ (sent = 1 ∧ ∃ st ld : Nat, st ≤ 40 ∧ ld ≤ 18 ∧ ts = nI st ∧ tld = nI ld ∧ km = nI ld ∧ nums 0 = ts ∧ nums 1 = tc ∧ nums 2 = tld ∧ nums 3 = tca ∧ nums 4 = tp ∧ nums 5 = tk ∧ (∀ j, j ≤ st → kn j = tv j) ∧ (∀ j, j < ld → klo j = tml j ∧ khi j = tmh j) ∧
    ((fits = 0 ∧ old = 1) ∨ (fits = 1 ∧ old = 0 ∧ ∃ (car : Nat → Bool) (li : Nat → Nat), (∀ i, i < 32 → bt tl i = car i) ∧ (∀ i, car i = true ↔ ∃ j, j < ld ∧ li j = i) ∧ (∀ j, j < ld → kept j = nI (li j) ∧ li j < K))))
theorem LR.ft {K K' : Nat} {sent fits fits' ts tc tca tp tk tl tld : Int32} {tv tml tmh : Nat → Int32} {old old' : Int32} {kept klo khi : Nat → Int32} {km : Int32} {kn nums : Nat → Int32} (h : LR K sent fits ts tc tca tp tk tl tld tv tml tmh old kept klo khi km kn nums) (hf : FT fits old K fits' old' K') : LR K' sent fits' ts tc tca tp tk tl tld tv tml tmh old' kept klo khi km kn nums := by
  rcases h with h | ⟨h1, st, ld, a1, a2, a3, a4, a5, a6, a7, a8, a9, a10, a11, a12, a13, a14⟩
  · exact Or.inl h
  · refine Or.inr ⟨h1, st, ld, a1, a2, a3, a4, a5, a6, a7, a8, a9, a10, a11, a12, a13, ?_⟩
    rcases hf with hf | ⟨rfl, rfl, rfl⟩
    · exact Or.inl hf
    · exact a14
theorem q_cnt_set {f : Nat → Bool} {i : Nat} : ∀ k, i < k → q_cnt (va_up f i false) k + (if f i = true then 1 else 0) = q_cnt f k
  | 0, h => by omega
  | k + 1, h => by
    rw [q_cnt, q_cnt]
    by_cases e : i = k
    · subst e
      have : q_cnt (va_up f i false) i = q_cnt f i := q_cnt_congr i (fun j hj => by rw [up_ne (by omega)])
      rw [this, up_eq]
      simp
    · have := q_cnt_set (f := f) k (show i < k by omega)
      rw [up_ne (show k ≠ i from fun q => e q.symm)]
      omega
theorem M_mbl {g : AN} {past kept : Nat → Int32} {pm sent old : Int32} {ld : Nat} {li : Nat → Nat} (hk : gK g ≤ 18) (hld : ld ≤ 18) (hli : ∀ j, j < ld → kept j = nI (li j) ∧ li j < gK g) : ∀ (m j fuel a : Nat) (w : Nat → Int32) (f : Nat → Bool), j + m = ld → m < fuel → RM w (gSetMp g f) → ∃ (a' : Nat) (w' : Nat → Int32) (f' : Nat → Bool), f_X6_mendByLetter_b25 fuel (nI a) (nI j) w past pm sent old kept (nI ld) = some (nI a', w', past, pm) ∧ RM w' (gSetMp g f') ∧ a' + q_cnt f' (gK g) = a + q_cnt f (gK g) ∧ ∀ i, f' i = true ↔ f i = true ∧ ¬ ∃ j', j ≤ j' ∧ j' < ld ∧ li j' = i
  | 0, j, fuel, a, w, f, h1, h2, hw => by
    obtain ⟨n, rfl⟩ : ∃ n, fuel = n + 1 := ⟨fuel - 1, by omega⟩
    rw [f_X6_mendByLetter_b25, t_le (by omega) (by omega), if_pos (by omega)]
    refine ⟨a, w, f, rfl, hw, rfl, fun i => ⟨fun h => ⟨h, ?_⟩, fun h => h.1⟩⟩
    rintro ⟨j', q1, q2, -⟩
    omega
  | m + 1, j, fuel, a, w, f, h1, h2, hw => by
    obtain ⟨n, rfl⟩ : ∃ n, fuel = n + 1 := ⟨fuel - 1, by omega⟩
    obtain ⟨e1, e2⟩ := hli j (by omega)
    obtain ⟨-, -, -, -, z5⟩ := hw.2.2.2 (li j) e2
    have z5' : w (7 + 5 * li j) = b01 (f (li j)) := z5
    have hadd : nI a + b01 (f (li j)) = nI (a + if f (li j) = true then 1 else 0) := by
      cases f (li j) with
      | true => exact nI_1 a
      | false => exact n_add0 a
    rw [f_X6_mendByLetter_b25, t_le (by omega) (by omega), if_neg (by omega), t_inb (by omega), if_pos (show j < 18 by omega), n_cl (by omega), e1, M_of4 (by omega), Option.bind_some, z5', hadd, l3, l4, l5, n_mul, n_add, n_add, t_inb (by omega), if_pos (show 3 + 5 * li j + 4 < 93 by omega), n_cl (by omega), nI_1, show 3 + 5 * li j + 4 = 7 + 5 * li j by omega]
    obtain ⟨a', w', f', k1, k2, k3, k4⟩ := M_mbl (past := past) (pm := pm) (sent := sent) (old := old) hk hld hli m (j + 1) n (a + if f (li j) = true then 1 else 0) _ (va_up f (li j) false) (by omega) (by omega) (RM.mp (g := gSetMp g f) hw e2 false)
    refine ⟨a', w', f', k1, k2, ?_, fun i => ?_⟩
    · have := q_cnt_set (f := f) (gK g) e2
      omega
    · rw [k4]
      constructor
      · rintro ⟨q1, q2⟩
        by_cases c : i = li j
        · rw [c, up_eq] at q1; cases q1
        · rw [up_ne c] at q1
          refine ⟨q1, ?_⟩
          rintro ⟨j', p1, p2, p3⟩
          by_cases d : j' = j
          · rw [d] at p3; exact c p3.symm
          · exact q2 ⟨j', by omega, p2, p3⟩
      · rintro ⟨q1, q2⟩
        have c : i ≠ li j := fun q => q2 ⟨j, Nat.le_refl _, by omega, q.symm⟩
        rw [up_ne c]
        refine ⟨q1, ?_⟩
        rintro ⟨j', p1, p2, p3⟩
        exact q2 ⟨j', by omega, p2, p3⟩
theorem q_cnt_part {f c : Nat → Bool} : ∀ k, q_cnt (fun i => f i && c i) k + q_cnt (fun i => f i && !c i) k = q_cnt f k
  | 0 => rfl
  | k + 1 => by
    rw [q_cnt, q_cnt, q_cnt, ← q_cnt_part (f := f) (c := c) k]
    cases f k <;> cases c k <;> simp <;> omega
theorem S_mbl {g : AN} {v : NV} {w past : Nat → Int32} {pi : Nat → Nat} {und sent fits ts tc tca tp tk tl tld : Int32} {tv tml tmh : Nat → Int32} {old : Int32} {kept klo khi : Nat → Int32} {km : Int32} {kn nums : Nat → Int32} {hC : Nat → NV} (hg : gOK g) (hr : RC v g) (hw : RM w g) (hh : HR pi und hC past) (hl : LR (gK g) sent fits ts tc tca tp tk tl tld tv tml tmh old kept klo khi km kn nums) :
    ∃ (r : Int32) (pi' : Nat → Nat) (und' I' : Int32) (hC' : Nat → NV) (w' past' : Nat → Int32) (g' : AN), f_X5_mendByLetter pi und sent fits v.1 v.2.1 v.2.2.1 v.2.2.2.1 v.2.2.2.2.1 v.2.2.2.2.2.1 v.2.2.2.2.2.2.1 v.2.2.2.2.2.2.2 tl hC = some (r, pi', und', I', hC') ∧ f_X6_mendByLetter w past und sent old kept km = some (r, w', past', und') ∧ gOK g' ∧ RC (v.1, v.2.1, v.2.2.1, v.2.2.2.1, I', v.2.2.2.2.2) g' ∧ RM w' g' ∧ HR pi' und' hC' past' ∧ gK g' = gK g := by
  have hk := hg.2.2.1
  unfold f_X5_mendByLetter f_X6_mendByLetter
  rcases hl with rfl | ⟨rfl, st, ld, a1, a2, a3, a4, a5, a6, a7, a8, a9, a10, a11, a12, a13, a14⟩
  · rw [if_pos rfl, if_pos rfl]
    exact ⟨_, _, _, _, _, _, _, g, rfl, rfl, hg, hr, hw, hh, rfl⟩
  rw [if_neg ne10, if_neg ne10]
  rcases a14 with ⟨rfl, rfl⟩ | ⟨rfl, rfl, car, li, b1, b2, b3⟩
  · rw [if_pos rfl, if_neg ne10]
    exact ⟨_, _, _, _, _, _, _, g, rfl, rfl, hg, hr, hw, hh, rfl⟩
  obtain ⟨pi', und', hC', past', k1, k2, k3⟩ := S_record hh hg hr hw
  obtain ⟨r1, r2, r3, r4, r5, r6⟩ := id hr
  subst a5
  obtain ⟨a', w', f', m1, m2, m3, m4⟩ := M_mbl (past := past') (pm := und') (sent := 1) (old := 0) hk a2 b3 ld 0 1000 0 w (gMp g) (by omega) (by omega) hw
  have hf : ∀ i, f' i = (gMp g i && !car i) := by
    intro i
    have h1 := m4 i
    have h2 := b2 i
    have h3 : (∃ j', 0 ≤ j' ∧ j' < ld ∧ li j' = i) ↔ car i = true := by
      rw [h2]
      constructor
      · rintro ⟨j, -, x, y⟩; exact ⟨j, x, y⟩
      · rintro ⟨j, x, y⟩; exact ⟨j, Nat.zero_le _, x, y⟩
    rw [h3] at h1
    revert h1
    cases f' i <;> cases gMp g i <;> cases car i <;> simp
  have hfe : f' = fun i => gMp g i && !car i := funext hf
  subst hfe
  rw [if_neg ne10, if_pos rfl, k1, Option.bind_some, M_remember, k2, Option.bind_some, p_bc hk (r5.both hk (fun i hi => b1 i (by omega)))]
  dsimp only
  rw [show f_X6_mendByLetter_b25 1000 0 0 w past' und' 1 0 kept (nI ld) = _ from m1]
  have hq := q_cnt_part (f := gMp g) (c := car) (gK g)
  have : a' = q_cnt (fun i => gMp g i && car i) (gK g) := by omega
  rw [this]
  exact ⟨_, _, _, _, _, _, _, gSetMp g (fun i => gMp g i && !car i), rfl, rfl, hg, ⟨r1, r2, r3, r4, r5.butnot hk (fun i hi => b1 i (by omega)), r6⟩, m2, k3, rfl⟩
/-! letter, passed, carried -/
theorem S_letter {K : Nat} {sent fits ts tc tca tp tk tl tld : Int32} {tv tml tmh : Nat → Int32} {old : Int32} {kept klo khi : Nat → Int32} {km : Int32} {kn nums : Nat → Int32} (hl : LR K sent fits ts tc tca tp tk tl tld tv tml tmh old kept klo khi km kn nums) (p1 : Int32) : ∃ r : Int32, f_X5_letter p1 sent ts tc tca tp tk tld = r ∧ f_X6_letter p1 sent nums = some r := by
  refine ⟨_, rfl, ?_⟩
  unfold f_X5_letter f_X6_letter
  rcases chk_in p1 (a := 0) (b := 5) (by omega) (by omega) with ⟨e, d⟩ | ⟨x, -, hx, rfl, e⟩
  · rw [show f_X6_isIn p1 0 5 = 0 from e, if_pos (show (0 : Int32) = 0 from rfl)]
    by_cases q : p1 < 0
    · rw [if_pos q]
    · have q2 : (5 : Int32) < p1 := by
        rcases d with d | d
        · exact absurd d q
        · exact d
      rw [if_neg q, if_neg (show ¬ p1 ≤ 5 by rw [i_lt] at q2; rw [i_le]; omega)]
  rw [show f_X6_isIn (nI x) 0 5 = 1 from e, if_neg ne10, if_neg (n_nneg (by omega)), if_pos (show nI x ≤ 5 by rw [l5, n_le (by omega) (by omega)]; omega)]
  rcases hl with rfl | ⟨rfl, st, ld, a1, a2, a3, a4, a5, a6, a7, a8, a9, a10, a11, -⟩
  · rw [if_pos rfl, if_pos rfl]
  rw [if_neg ne10, if_neg ne10, t_inb (by omega), if_pos (show x < 6 by omega), n_cl (by omega)]
  rcases Nat.lt_or_ge x 1 with c | c
  · have : x = 0 := by omega
    subst this
    rw [if_pos (show nI 0 = (0 : Int32) from rfl), a6]
  rw [if_neg (show ¬ nI x = (0 : Int32) by rw [l0, n_eq (by omega) (by omega)]; omega)]
  rcases Nat.lt_or_ge x 2 with c | c
  · have : x = 1 := by omega
    subst this
    rw [if_pos (show nI 1 = (1 : Int32) from rfl), a7]
  rw [if_neg (show ¬ nI x = (1 : Int32) by rw [l1, n_eq (by omega) (by omega)]; omega)]
  rcases Nat.lt_or_ge x 3 with c | c
  · have : x = 2 := by omega
    subst this
    rw [if_pos (show nI 2 = (2 : Int32) from rfl), a8]
  rw [if_neg (show ¬ nI x = (2 : Int32) by rw [l2, n_eq (by omega) (by omega)]; omega)]
  rcases Nat.lt_or_ge x 4 with c | c
  · have : x = 3 := by omega
    subst this
    rw [if_pos (show nI 3 = (3 : Int32) from rfl), a9]
  rw [if_neg (show ¬ nI x = (3 : Int32) by rw [l3, n_eq (by omega) (by omega)]; omega)]
  rcases Nat.lt_or_ge x 5 with c | c
  · have : x = 4 := by omega
    subst this
    rw [if_pos (show nI 4 = (4 : Int32) from rfl), a10]
  rw [if_neg (show ¬ nI x = (4 : Int32) by rw [l4, n_eq (by omega) (by omega)]; omega)]
  have : x = 5 := by omega
  subst this
  rw [a11]
theorem S_passed {K : Nat} {sent fits ts tc tca tp tk tl tld : Int32} {tv tml tmh : Nat → Int32} {old : Int32} {kept klo khi : Nat → Int32} {km : Int32} {kn nums : Nat → Int32} (hl : LR K sent fits ts tc tca tp tk tl tld tv tml tmh old kept klo khi km kn nums) (p1 : Int32) : ∃ r : Int32, f_X5_passed p1 sent ts tv = some r ∧ f_X6_passed p1 sent kn nums = some r := by
  unfold f_X5_passed f_X6_passed
  rcases p_split p1 with hneg | ⟨k, hk, rfl⟩
  · have := i_neg hneg
    have z : (0 : Int32).toInt = 0 := rfl
    rw [if_neg (show ¬ (0 : Int32) ≤ p1 by rw [i_le]; omega), if_neg (show ¬ (0 : Int32) ≤ p1 by rw [i_le]; omega)]
    exact ⟨_, rfl, rfl⟩
  rw [if_pos (show (0 : Int32) ≤ nI k by rw [l0, n_le (by omega) hk]; omega), if_pos (show (0 : Int32) ≤ nI k by rw [l0, n_le (by omega) hk]; omega)]
  rcases hl with rfl | ⟨rfl, st, ld, a1, a2, a3, a4, a5, a6, a7, a8, a9, a10, a11, a12, -⟩
  · rw [if_pos rfl, if_pos rfl]; exact ⟨_, rfl, rfl⟩
  rw [if_neg ne10, if_neg ne10, c0, a6, a3, t_lt (by omega) hk, l40, t_le hk (by omega), t_lt (by omega) hk]
  by_cases c : st < k
  · rw [if_pos c, if_pos c]; exact ⟨_, rfl, rfl⟩
  · rw [if_neg c, if_neg c, if_pos (show k ≤ 40 by omega), t_inb (by omega), if_pos (show k < 41 by omega), n_cl (by omega), t_inb (by omega), if_pos (show k < 41 by omega), a12 k (by omega)]
    exact ⟨_, rfl, rfl⟩
theorem S_carried {K : Nat} {sent fits ts tc tca tp tk tl tld : Int32} {tv tml tmh : Nat → Int32} {old : Int32} {kept klo khi : Nat → Int32} {km : Int32} {kn nums : Nat → Int32} (hl : LR K sent fits ts tc tca tp tk tl tld tv tml tmh old kept klo khi km kn nums) (p1 p2 : Int32) : ∃ r : Int32, f_X5_carried p1 p2 sent tld tml tmh = some r ∧ f_X6_carried p1 p2 sent klo khi km = some r := by
  unfold f_X5_carried f_X6_carried
  rcases p_split p1 with hneg | ⟨k, hk, rfl⟩
  · rw [if_pos hneg, if_pos hneg]; exact ⟨_, rfl, rfl⟩
  rw [if_neg (n_nneg hk), if_neg (n_nneg hk)]
  rcases chk_flag p2 with ⟨e3, e4⟩ | ⟨b, rfl, e3, e4⟩
  · rw [e3, e4, if_pos rfl, if_pos rfl]; exact ⟨_, rfl, rfl⟩
  rw [e3, e4, if_neg ne10, if_neg ne10]
  rcases hl with rfl | ⟨rfl, st, ld, a1, a2, a3, a4, a5, a6, a7, a8, a9, a10, a11, a12, a13, -⟩
  · rw [if_pos rfl, if_pos rfl]; exact ⟨_, rfl, rfl⟩
  rw [if_neg ne10, if_neg ne10, a4, a5, t_le (by omega) hk, t_lt hk (by omega), l18, t_lt hk (by omega), b01_eq0, b01_eq0]
  by_cases c : ld ≤ k
  · rw [if_pos c, if_neg (show ¬ k < ld by omega)]; exact ⟨_, rfl, rfl⟩
  · have hin : ∀ {α : Type} {x y : α}, (if inb (nI k) 18 = true then x else y) = x := fun {α x y} => by rw [t_inb (by omega), if_pos (by omega)]
    obtain ⟨q1, q2⟩ := a13 k (by omega)
    rw [if_neg c, if_pos (show k < 18 by omega), if_pos (show k < ld by omega)]
    simp only [hin]
    rw [n_cl hk, q1, q2]
    cases b with
    | true => rw [if_pos rfl]; exact ⟨_, rfl, rfl⟩
    | false => rw [if_neg (by decide)]; exact ⟨_, rfl, rfl⟩
