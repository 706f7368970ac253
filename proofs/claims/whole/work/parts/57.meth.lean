/-! begin, add, remove, turn, know, mend, setRoom -/
def FT (f o : Int32) (k : Nat) (f' o' : Int32) (k' : Nat) : Prop := (f' = 0 ∧ o' = 1) ∨ (f' = f ∧ o' = o ∧ k' = k)
theorem RM.mp {w : Nat → Int32} {g : AN} {i : Nat} (h : RM w g) (hi : i < gK g) (b : Bool) : RM (upd w (7 + 5 * i) (b01 b)) (gSetMp g (va_up (gMp g) i b)) := by
  obtain ⟨w1, w2, w3, w4⟩ := h
  refine ⟨by rw [upd_ne (by omega)]; exact w1, by rw [upd_ne (by omega)]; exact w2, by rw [upd_ne (by omega)]; exact w3, fun j hj => ?_⟩
  have hj2 : j < gK g := hj
  obtain ⟨z1, z2, z3, z4, z5⟩ := w4 j hj2
  refine ⟨by rw [upd_ne (by omega)]; exact z1, by rw [upd_ne (by omega)]; exact z2, by rw [upd_ne (by omega)]; exact z3, by rw [upd_ne (by omega)]; exact z4, ?_⟩
  show _ = b01 (va_up (gMp g) i b j)
  by_cases e : j = i
  · subst e; rw [upd_eq, up_eq]
  · rw [upd_ne (by omega), up_ne e]; exact z5
theorem RM.al {w : Nat → Int32} {g : AN} {i : Nat} (h : RM w g) (hi : i < gK g) (b : Bool) : RM (upd w (6 + 5 * i) (b01 b)) (gSetAl g (va_up (gAl g) i b)) := by
  obtain ⟨w1, w2, w3, w4⟩ := h
  refine ⟨by rw [upd_ne (by omega)]; exact w1, by rw [upd_ne (by omega)]; exact w2, by rw [upd_ne (by omega)]; exact w3, fun j hj => ?_⟩
  have hj2 : j < gK g := hj
  obtain ⟨z1, z2, z3, z4, z5⟩ := w4 j hj2
  refine ⟨by rw [upd_ne (by omega)]; exact z1, by rw [upd_ne (by omega)]; exact z2, by rw [upd_ne (by omega)]; exact z3, ?_, by rw [upd_ne (by omega)]; exact z5⟩
  show _ = b01 (va_up (gAl g) i b j)
  by_cases e : j = i
  · subst e; rw [upd_eq, up_eq]
  · rw [upd_ne (by omega), up_ne e]; exact z4
theorem RM.clear {w : Nat → Int32} {g : AN} (h : RM w g) (n : Nat) : RM (upd (upd w 0 (nI n)) 1 0) (gClear g n) := by
  obtain ⟨w1, w2, w3, w4⟩ := h
  refine ⟨rfl, rfl, by rw [upd_ne (by omega), upd_ne (by omega)]; exact w3, fun j hj => ?_⟩
  have hj2 : j < 0 := hj
  omega
theorem gClear_ok {g : AN} {n : Nat} (h : gOK g) (h2 : 2 ≤ n) (h9 : n ≤ 9) : gOK (gClear g n) := ⟨h2, h9, Nat.zero_le _, h.2.2.2.1, fun i hi => absurd hi (Nat.not_lt_zero _)⟩
theorem S_begin {g : AN} {v : NV} {w past : Nat → Int32} {pi : Nat → Nat} {und fits old : Int32} {hC : Nat → NV} (hg : gOK g) (hr : RC v g) (hw : RM w g) (hh : HR pi und hC past) (p1 : Int32) :
    ∃ (r : Int32) (pi' : Nat → Nat) (und' fits' n' k' A' I' : Int32) (hC' : Nat → NV) (w' past' : Nat → Int32) (old' : Int32) (g' : AN), f_X5_begin p1 pi und fits v.1 v.2.1 v.2.2.1 v.2.2.2.1 v.2.2.2.2.1 v.2.2.2.2.2.1 v.2.2.2.2.2.2.1 v.2.2.2.2.2.2.2 hC = some (r, pi', und', fits', n', k', A', I', hC') ∧ f_X6_begin p1 w past und old = some (r, w', past', und', old') ∧ gOK g' ∧ RC (n', k', v.2.2.1, A', I', v.2.2.2.2.2) g' ∧ RM w' g' ∧ HR pi' und' hC' past' ∧ FT fits old (gK g) fits' old' (gK g') := by
  unfold f_X5_begin f_X6_begin
  rcases chk_in p1 (a := 2) (b := 9) (by omega) (by omega) with ⟨e, d⟩ | ⟨n, h2, h9, rfl, e⟩
  · rw [show f_X6_isIn p1 2 9 = 0 from e, if_pos (show (0 : Int32) = 0 from rfl)]
    by_cases q : p1 < 2
    · rw [if_pos q]
      exact ⟨_, _, _, _, _, _, _, _, _, _, _, _, g, rfl, rfl, hg, hr, hw, hh, Or.inr ⟨rfl, rfl, rfl⟩⟩
    · have q2 : (9 : Int32) < p1 := by
        rcases d with d | d
        · exact absurd d q
        · exact d
      rw [if_neg q, if_neg (show ¬ p1 ≤ 9 by rw [i_lt] at q2; rw [i_le]; omega)]
      exact ⟨_, _, _, _, _, _, _, _, _, _, _, _, g, rfl, rfl, hg, hr, hw, hh, Or.inr ⟨rfl, rfl, rfl⟩⟩
  · obtain ⟨pi', und', hC', past', k1, k2, k3⟩ := S_record hh hg hr hw
    rw [show f_X6_isIn (nI n) 2 9 = 1 from e, if_neg ne10, if_neg (show ¬ nI n < 2 by rw [l2, n_lt (by omega) (by omega)]; omega), if_pos (show nI n ≤ 9 by rw [l9, n_le (by omega) (by omega)]; omega), k1, Option.bind_some, M_remember, k2, Option.bind_some, c0, c1, hw.1, ← hr.1]
    refine ⟨_, _, _, _, _, _, _, _, _, _, _, _, gClear g n, rfl, rfl, gClear_ok hg h2 h9, ⟨rfl, rfl, hr.2.2.1, Msk.zero _, Msk.zero _, fun i hi => absurd hi (Nat.not_lt_zero _)⟩, hw.clear n, k3, Or.inl ⟨rfl, rfl⟩⟩
theorem S_add {g : AN} {v : NV} {w past : Nat → Int32} {pi : Nat → Nat} {und fits old : Int32} {hC : Nat → NV} (hg : gOK g) (hr : RC v g) (hw : RM w g) (hh : HR pi und hC past) (p1 p2 p3 : Int32) :
    ∃ (r : Int32) (pi' : Nat → Nat) (und' fits' k' A' I' : Int32) (lo' hi' ln' : Nat → Int32) (hC' : Nat → NV) (w' past' : Nat → Int32) (old' : Int32) (g' : AN), f_X5_add p1 p2 p3 pi und fits v.1 v.2.1 v.2.2.1 v.2.2.2.1 v.2.2.2.2.1 v.2.2.2.2.2.1 v.2.2.2.2.2.2.1 v.2.2.2.2.2.2.2 hC = some (r, pi', und', fits', k', A', I', lo', hi', ln', hC') ∧ f_X6_add p1 p2 p3 w past und old = some (r, w', past', und', old') ∧ gOK g' ∧ RC (v.1, k', v.2.2.1, A', I', lo', hi', ln') g' ∧ RM w' g' ∧ HR pi' und' hC' past' ∧ FT fits old (gK g) fits' old' (gK g') := by
  obtain ⟨r, e1, e2, h⟩ := S_refuse (len := v.2.2.2.2.2.2.2) hg hr.cl hw p1 p2 p3
  have h9 := hg.2.1
  unfold f_X5_add f_X6_add
  rw [hr.1, hr.2.1, e1, e2, Option.bind_some, Option.bind_some, ← hr.1, ← hr.2.1]
  rcases h with ⟨-, n0, n1⟩ | ⟨rfl, a, b, l, rfl, rfl, rfl, ha, hb, hab, hl1, hl9, hk⟩
  · rw [if_neg n0, if_neg n1]
    exact ⟨_, _, _, _, _, _, _, _, _, _, _, _, _, _, g, rfl, rfl, hg, hr, hw, hh, Or.inr ⟨rfl, rfl, rfl⟩⟩
  · obtain ⟨pi', und', hC', past', k1, k2, k3⟩ := S_record hh hg hr hw
    obtain ⟨A', I', lo', hi', ln', a1, a2⟩ := C_append (l := l) hr (show a < 9 by omega) (show b < 9 by omega) hab hk
    obtain ⟨w', m1, m2⟩ := M_append (l := l) hw (show a < 9 by omega) (show b < 9 by omega) hab hk
    rw [if_pos (show (0 : Int32) = 0 from rfl), if_pos (show (0 : Int32) ≤ 0 by decide), k1, Option.bind_some, M_remember, k2, Option.bind_some]
    dsimp only
    rw [a1, Option.bind_some, m1, Option.bind_some, c1, show w' 1 = nI (gK g + 1) from m2.2.1]
    exact ⟨_, _, _, _, _, _, _, _, _, _, _, _, _, _, _, rfl, rfl, gApp_ok hg ha hb hab hl1 hl9 hk, a2, m2, k3, Or.inl ⟨rfl, rfl⟩⟩
theorem S_remove {g : AN} {v : NV} {w past : Nat → Int32} {pi : Nat → Nat} {und fits old : Int32} {hC : Nat → NV} (hg : gOK g) (hr : RC v g) (hw : RM w g) (hh : HR pi und hC past) (p1 : Int32) :
    ∃ (r : Int32) (pi' : Nat → Nat) (und' fits' k' A' I' : Int32) (lo' hi' ln' : Nat → Int32) (hC' : Nat → NV) (w' past' : Nat → Int32) (old' : Int32) (g' : AN), f_X5_remove p1 pi und fits v.1 v.2.1 v.2.2.1 v.2.2.2.1 v.2.2.2.2.1 v.2.2.2.2.2.1 v.2.2.2.2.2.2.1 v.2.2.2.2.2.2.2 hC = some (r, pi', und', fits', k', A', I', lo', hi', ln', hC') ∧ f_X6_remove p1 w past und old = some (r, w', past', und', old') ∧ gOK g' ∧ RC (v.1, k', v.2.2.1, A', I', lo', hi', ln') g' ∧ RM w' g' ∧ HR pi' und' hC' past' ∧ FT fits old (gK g) fits' old' (gK g') := by
  have hk := hg.2.2.1
  unfold f_X5_remove f_X6_remove
  rw [hr.2.1]
  rcases chk_link hk hw p1 with ⟨e1, e2⟩ | ⟨i, hi, rfl, e1, e2⟩
  · rw [e1, e2, if_pos rfl, Option.bind_some, if_pos rfl, ← hr.2.1]
    exact ⟨_, _, _, _, _, _, _, _, _, _, _, _, _, _, g, rfl, rfl, hg, hr, hw, hh, Or.inr ⟨rfl, rfl, rfl⟩⟩
  · obtain ⟨pi', und', hC', past', k1, k2, k3⟩ := S_record hh hg hr hw
    obtain ⟨A', I', lo', hi', ln', a1, a2⟩ := C_dropLink hr hk hi
    obtain ⟨w', m1, m2⟩ := M_dropLink (past := past') (pm := und') (old := old) hw hk hi
    rw [e1, e2, if_neg ne10, Option.bind_some, if_neg ne10, ← hr.2.1, k1, Option.bind_some, M_remember, k2, Option.bind_some]
    dsimp only
    rw [a1, Option.bind_some, l3, l5, n_mul, n_add, m1]
    exact ⟨_, _, _, _, _, _, _, _, _, _, _, _, _, _, _, rfl, rfl, gDrop_ok hg hi, a2, m2, k3, Or.inl ⟨rfl, rfl⟩⟩
theorem S_turn {g : AN} {v : NV} {w past : Nat → Int32} {pi : Nat → Nat} {und : Int32} {hC : Nat → NV} (hg : gOK g) (hr : RC v g) (hw : RM w g) (hh : HR pi und hC past) (p1 p2 : Int32) :
    ∃ (r : Int32) (pi' : Nat → Nat) (und' A' : Int32) (hC' : Nat → NV) (w' past' : Nat → Int32) (g' : AN), f_X5_turn p1 p2 pi und v.1 v.2.1 v.2.2.1 v.2.2.2.1 v.2.2.2.2.1 v.2.2.2.2.2.1 v.2.2.2.2.2.2.1 v.2.2.2.2.2.2.2 hC = some (r, pi', und', A', hC') ∧ f_X6_turn p1 p2 w past und = some (r, w', past', und') ∧ gOK g' ∧ RC (v.1, v.2.1, v.2.2.1, A', v.2.2.2.2) g' ∧ RM w' g' ∧ HR pi' und' hC' past' ∧ gK g' = gK g := by
  have hk := hg.2.2.1
  unfold f_X5_turn f_X6_turn f_X6_change
  rw [hr.2.1]
  rcases chk_link hk hw p1 with ⟨e1, e2⟩ | ⟨i, hi, rfl, e1, e2⟩
  · rw [e1, e2, if_pos rfl, Option.bind_some, if_pos rfl, ← hr.2.1]
    exact ⟨_, _, _, _, _, _, _, g, rfl, rfl, hg, hr, hw, hh, rfl⟩
  rw [e1, e2, if_neg ne10, Option.bind_some, if_neg ne10, ← hr.2.1]
  rcases chk_flag p2 with ⟨e3, e4⟩ | ⟨b, rfl, e3, e4⟩
  · rw [e3, e4, if_pos rfl, if_pos rfl]
    exact ⟨_, _, _, _, _, _, _, g, rfl, rfl, hg, hr, hw, hh, rfl⟩
  · obtain ⟨pi', und', hC', past', k1, k2, k3⟩ := S_record hh hg hr hw
    obtain ⟨r1, r2, r3, r4, r5, r6⟩ := id hr
    rw [e3, e4, if_neg ne10, if_neg ne10, k1, Option.bind_some, M_remember, k2, Option.bind_some]
    dsimp only
    rw [M_of3 (by omega), Option.bind_some, (hw.2.2.2 i hi).2.2.2.1, p_bit' _ (by omega), r4.at hk hi, l3, l5, n_mul, n_add, n_add, t_inb (by omega), if_pos (by omega), n_cl (by omega), show 3 + 5 * i + 3 = 6 + 5 * i by omega, Option.bind_some]
    exact ⟨_, _, _, _, _, _, _, gSetAl g (va_up (gAl g) i b), rfl, rfl, hg, ⟨r1, r2, r3, r4.set hk hi b, r5, r6⟩, hw.al hi b, k3, rfl⟩
theorem S_know {g : AN} {v : NV} {w past : Nat → Int32} {pi : Nat → Nat} {und : Int32} {hC : Nat → NV} (hg : gOK g) (hr : RC v g) (hw : RM w g) (hh : HR pi und hC past) (p1 p2 : Int32) :
    ∃ (r : Int32) (pi' : Nat → Nat) (und' I' : Int32) (hC' : Nat → NV) (w' past' : Nat → Int32) (g' : AN), f_X5_know p1 p2 pi und v.1 v.2.1 v.2.2.1 v.2.2.2.1 v.2.2.2.2.1 v.2.2.2.2.2.1 v.2.2.2.2.2.2.1 v.2.2.2.2.2.2.2 hC = some (r, pi', und', I', hC') ∧ f_X6_know p1 p2 w past und = some (r, w', past', und') ∧ gOK g' ∧ RC (v.1, v.2.1, v.2.2.1, v.2.2.2.1, I', v.2.2.2.2.2) g' ∧ RM w' g' ∧ HR pi' und' hC' past' ∧ gK g' = gK g := by
  have hk := hg.2.2.1
  unfold f_X5_know f_X6_know f_X6_change
  rw [hr.2.1]
  rcases chk_link hk hw p1 with ⟨e1, e2⟩ | ⟨i, hi, rfl, e1, e2⟩
  · rw [e1, e2, if_pos rfl, Option.bind_some, if_pos rfl, ← hr.2.1]
    exact ⟨_, _, _, _, _, _, _, g, rfl, rfl, hg, hr, hw, hh, rfl⟩
  rw [e1, e2, if_neg ne10, Option.bind_some, if_neg ne10, ← hr.2.1]
  rcases chk_flag p2 with ⟨e3, e4⟩ | ⟨b, rfl, e3, e4⟩
  · rw [e3, e4, if_pos rfl, if_pos rfl]
    exact ⟨_, _, _, _, _, _, _, g, rfl, rfl, hg, hr, hw, hh, rfl⟩
  · obtain ⟨pi', und', hC', past', k1, k2, k3⟩ := S_record hh hg hr hw
    obtain ⟨r1, r2, r3, r4, r5, r6⟩ := id hr
    rw [e3, e4, if_neg ne10, if_neg ne10, k1, Option.bind_some, M_remember, k2, Option.bind_some]
    dsimp only
    rw [M_of4 (by omega), Option.bind_some, (hw.2.2.2 i hi).2.2.2.2, p_bit' _ (by omega), r5.at hk hi, l3, l4, l5, n_mul, n_add, n_add, t_inb (by omega), if_pos (by omega), n_cl (by omega), show 3 + 5 * i + 4 = 7 + 5 * i by omega, Option.bind_some]
    exact ⟨_, _, _, _, _, _, _, gSetMp g (va_up (gMp g) i b), rfl, rfl, hg, ⟨r1, r2, r3, r4, r5.set hk hi b, r6⟩, hw.mp hi b, k3, rfl⟩
theorem S_setRoom {g : AN} {v : NV} {w past : Nat → Int32} {pi : Nat → Nat} {und : Int32} {hC : Nat → NV} (hg : gOK g) (hr : RC v g) (hw : RM w g) (hh : HR pi und hC past) (p1 : Int32) :
    ∃ (r : Int32) (pi' : Nat → Nat) (und' R' : Int32) (hC' : Nat → NV) (w' past' : Nat → Int32) (g' : AN), f_X5_setRoom p1 pi und v.1 v.2.1 v.2.2.1 v.2.2.2.1 v.2.2.2.2.1 v.2.2.2.2.2.1 v.2.2.2.2.2.2.1 v.2.2.2.2.2.2.2 hC = some (r, pi', und', R', hC') ∧ f_X6_setRoom p1 w past und = some (r, w', past', und') ∧ gOK g' ∧ RC (v.1, v.2.1, R', v.2.2.2) g' ∧ RM w' g' ∧ HR pi' und' hC' past' ∧ gK g' = gK g := by
  unfold f_X5_setRoom f_X6_setRoom
  rcases chk_in p1 (a := 0) (b := 18) (by omega) (by omega) with ⟨e, d⟩ | ⟨n, -, h18, rfl, e⟩
  · rw [show f_X6_isIn p1 0 18 = 0 from e, if_pos (show (0 : Int32) = 0 from rfl)]
    by_cases q : p1 < 0
    · rw [if_pos q]
      exact ⟨_, _, _, _, _, _, _, g, rfl, rfl, hg, hr, hw, hh, rfl⟩
    · have q2 : (18 : Int32) < p1 := by
        rcases d with d | d
        · exact absurd d q
        · exact d
      rw [if_neg q, if_neg (show ¬ p1 ≤ 18 by rw [i_lt] at q2; rw [i_le]; omega)]
      exact ⟨_, _, _, _, _, _, _, g, rfl, rfl, hg, hr, hw, hh, rfl⟩
  · obtain ⟨pi', und', hC', past', k1, k2, k3⟩ := S_record hh hg hr hw
    obtain ⟨r1, r2, r3, r4⟩ := id hr
    obtain ⟨w1, w2, w3, w4⟩ := id hw
    rw [show f_X6_isIn (nI n) 0 18 = 1 from e, if_neg ne10, if_neg (n_nneg (by omega)), if_pos (show nI n ≤ 18 by rw [l18, n_le (by omega) (by omega)]; omega), k1, Option.bind_some, M_remember, k2, Option.bind_some, c2, w3, ← r3]
    refine ⟨_, _, _, _, _, _, _, gSetR g n, rfl, rfl, ⟨hg.1, hg.2.1, hg.2.2.1, h18, hg.2.2.2.2⟩, ⟨r1, r2, rfl, r4⟩, ⟨by rw [upd_ne (by omega)]; exact w1, by rw [upd_ne (by omega)]; exact w2, upd_eq, fun i hi => ?_⟩, k3, rfl⟩
    rw [upd_ne (by omega), upd_ne (by omega), upd_ne (by omega), upd_ne (by omega), upd_ne (by omega)]
    exact w4 i hi
theorem M_mend_b {g : AN} {past : Nat → Int32} {pm : Int32} (hk : gK g ≤ 18) : ∀ (m i fuel a : Nat) (w : Nat → Int32) (f : Nat → Bool), i + m = gK g → m < fuel → RM w (gSetMp g f) → (∀ j, j < i → f j = gAl g j) → (∀ j, i ≤ j → f j = gMp g j) → a = q_cnt (fun i => gAl g i ^^ gMp g i) i → ∃ w' : Nat → Int32, f_X6_mend_b8 fuel (nI a) (nI i) w past pm = some (nI (q_cnt (fun i => gAl g i ^^ gMp g i) (gK g)), w', past, pm) ∧ RM w' (gSetMp g (gAl g))
  | 0, i, fuel, a, w, f, h1, h2, hw, hf, hf2, ha => by
    obtain ⟨n, rfl⟩ : ∃ n, fuel = n + 1 := ⟨fuel - 1, by omega⟩
    have hi : i = gK g := by omega
    have hw1 : w 1 = nI (gK g) := hw.2.1
    rw [f_X6_mend_b8, c1, hw1, t_le (by omega) (by omega), if_pos (by omega), ha, hi]
    refine ⟨w, rfl, hw.1, hw.2.1, hw.2.2.1, fun j hj => ?_⟩
    obtain ⟨z1, z2, z3, z4, z5⟩ := hw.2.2.2 j hj
    refine ⟨z1, z2, z3, z4, ?_⟩
    have hj2 : j < gK g := hj
    show _ = b01 (gAl g j)
    rw [← hf j (by omega)]
    exact z5
  | m + 1, i, fuel, a, w, f, h1, h2, hw, hf, hf2, ha => by
    obtain ⟨n, rfl⟩ : ∃ n, fuel = n + 1 := ⟨fuel - 1, by omega⟩
    have hi : i < gK g := by omega
    have hw1 : w 1 = nI (gK g) := hw.2.1
    obtain ⟨-, -, -, z4, z5⟩ := hw.2.2.2 i hi
    have z4' : w (6 + 5 * i) = b01 (gAl g i) := z4
    have z5' : w (7 + 5 * i) = b01 (gMp g i) := by rw [← hf2 i (Nat.le_refl _)]; exact z5
    have b39 : ∀ s0 : Nat, a + s0 = q_cnt (fun i => gAl g i ^^ gMp g i) (i + 1) → ∃ w' : Nat → Int32, f_X6_mend_b39 (f_X6_mend_b8 n) (nI i) (nI s0) (nI a) w past pm = some (nI (q_cnt (fun i => gAl g i ^^ gMp g i) (gK g)), w', past, pm) ∧ RM w' (gSetMp g (gAl g)) := by
      intro s0 hs
      unfold f_X6_mend_b39
      rw [M_of3 (by omega), Option.bind_some, z4', l3, l4, l5, n_mul, n_add, n_add, t_inb (by omega), if_pos (show 3 + 5 * i + 4 < 93 by omega), n_cl (by omega), n_add, nI_1, show 3 + 5 * i + 4 = 7 + 5 * i by omega]
      refine M_mend_b hk m (i + 1) n (a + s0) _ (va_up f i (gAl g i)) (by omega) (by omega) (RM.mp (g := gSetMp g f) hw hi (gAl g i)) (fun j hj => ?_) (fun j hj => ?_) hs
      · by_cases e : j = i
        · rw [e, up_eq]
        · rw [up_ne e]; exact hf j (by omega)
      · rw [up_ne (by omega)]; exact hf2 j (by omega)
    rw [f_X6_mend_b8, c1, hw1, t_le (by omega) (by omega), if_neg (by omega), M_of3 (by omega), Option.bind_some, M_of4 (by omega), Option.bind_some, z4', z5', t_iff (b01_inj _ _)]
    by_cases e : gAl g i = gMp g i
    · rw [if_pos e]; exact b39 0 (by rw [q_cnt, if_neg (by rw [e]; simp), ha])
    · rw [if_neg e]; exact b39 1 (by rw [q_cnt, if_pos (by revert e; cases gAl g i <;> cases gMp g i <;> simp), ha])
theorem S_mend {g : AN} {v : NV} {w past : Nat → Int32} {pi : Nat → Nat} {und : Int32} {hC : Nat → NV} (hg : gOK g) (hr : RC v g) (hw : RM w g) (hh : HR pi und hC past) :
    ∃ (r : Int32) (pi' : Nat → Nat) (und' I' : Int32) (hC' : Nat → NV) (w' past' : Nat → Int32) (g' : AN), f_X5_mend pi und v.1 v.2.1 v.2.2.1 v.2.2.2.1 v.2.2.2.2.1 v.2.2.2.2.2.1 v.2.2.2.2.2.2.1 v.2.2.2.2.2.2.2 hC = some (r, pi', und', I', hC') ∧ f_X6_mend w past und = some (r, w', past', und') ∧ gOK g' ∧ RC (v.1, v.2.1, v.2.2.1, v.2.2.2.1, I', v.2.2.2.2.2) g' ∧ RM w' g' ∧ HR pi' und' hC' past' ∧ gK g' = gK g := by
  have hk := hg.2.2.1
  obtain ⟨pi', und', hC', past', k1, k2, k3⟩ := S_record hh hg hr hw
  obtain ⟨r1, r2, r3, r4, r5, r6⟩ := id hr
  obtain ⟨w', m1, m2⟩ := M_mend_b (past := past') (pm := und') hk (gK g) 0 1000 0 w (gMp g) (by omega) (by omega) hw (fun j hj => by omega) (fun j hj => rfl) rfl
  unfold f_X5_mend f_X6_mend f_X1_countWrongInMap
  rw [k1, Option.bind_some, M_remember, k2, Option.bind_some, p_bc hk (r4.xor r5)]
  dsimp only
  rw [show f_X6_mend_b8 1000 0 0 w past' und' = _ from m1]
  exact ⟨_, _, _, _, _, _, _, gSetMp g (gAl g), rfl, rfl, hg, ⟨r1, r2, r3, r4, r4, r6⟩, m2, k3, rfl⟩
