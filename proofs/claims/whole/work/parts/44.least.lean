/-! Model.layLeast -/
theorem M_step {g : AN} {use : Nat → Bool} {least : Nat → Int32} {d : Nat → Nat} {i : Nat} (hlo : gLo g i < gHi g i) (hhi : gHi g i < 9) (hln : gLn g i ≤ 9) (hu : use i = true) (hE : E9 least d) (hd : ∀ x, d x ≤ 1000000) {w may : Nat → Int32} (k41 : Int32 → Int32 → (Nat → Int32) → (Nat → Int32) → (Nat → Int32) → Option (Nat → Int32)) (x2 x3 : Int32) : ∃ least' : Nat → Int32, E9 least' (rx g use i d) ∧
    (if (least (gLo g i)) ≤ ((least (gHi g i)) + nI (16 * gLn g i + 1)) then f_X6_layLeast_b135 k41 x2 x3 (nI (16 * gLn g i + 1)) (nI (gLo g i)) (nI (gHi g i)) (least (gLo g i)) (nI (gLo g i)) w may least else f_X6_layLeast_b135 k41 x2 x3 (nI (16 * gLn g i + 1)) (nI (gLo g i)) (nI (gHi g i)) ((least (gHi g i)) + nI (16 * gLn g i + 1)) (nI (gLo g i)) w may least) = k41 x2 (x3 + 1) w may least' := by
  have dl := hd (gLo g i)
  have dh := hd (gHi g i)
  have el := hE (gLo g i) (by omega)
  have eh := hE (gHi g i) (by omega)
  have main : ∀ (v0 : Nat), v0 ≤ 1000200 → v0 = min (d (gLo g i)) (d (gHi g i) + (16 * gLn g i + 1)) → ∃ least' : Nat → Int32, E9 least' (rx g use i d) ∧ f_X6_layLeast_b135 k41 x2 x3 (nI (16 * gLn g i + 1)) (nI (gLo g i)) (nI (gHi g i)) (nI v0) (nI (gLo g i)) w may least = k41 x2 (x3 + 1) w may least' := by
    intro v0 hv0 hv
    have q1 : upd least (gLo g i) (nI v0) (gHi g i) = nI (d (gHi g i)) := by rw [upd_at, if_neg (by omega)]; exact eh
    have q2 : upd least (gLo g i) (nI v0) (gLo g i) = nI v0 := by rw [upd_at, if_pos rfl]
    have spec : ∀ v1 : Nat, v1 = min (d (gHi g i)) (v0 + (16 * gLn g i + 1)) → E9 (upd (upd least (gLo g i) (nI v0)) (gHi g i) (nI v1)) (rx g use i d) := by
      intro v1 hv1 x hx
      rw [upd_at, upd_at]
      unfold rx
      rw [if_pos hu]
      by_cases h1 : d (gHi g i) + (16 * gLn g i + 1) < d (gLo g i)
      · rw [if_pos h1, up_at]
        by_cases ex : x = gHi g i
        · rw [if_pos ex, if_neg (by omega), ex]; congr 1; omega
        · rw [if_neg ex]
          by_cases ey : x = gLo g i
          · rw [if_pos ey, if_pos ey]; congr 1; omega
          · rw [if_neg ey, if_neg ey]; exact hE x hx
      · rw [if_neg h1]
        by_cases h2 : d (gLo g i) + (16 * gLn g i + 1) < d (gHi g i)
        · rw [if_pos h2, up_at]
          by_cases ex : x = gHi g i
          · rw [if_pos ex, if_pos ex]; congr 1; omega
          · rw [if_neg ex, if_neg ex]
            by_cases ey : x = gLo g i
            · rw [if_pos ey, ey]; congr 1; omega
            · rw [if_neg ey]; exact hE x hx
        · rw [if_neg h2]
          by_cases ex : x = gHi g i
          · rw [if_pos ex, ex]; congr 1; omega
          · rw [if_neg ex]
            by_cases ey : x = gLo g i
            · rw [if_pos ey, ey]; congr 1; omega
            · rw [if_neg ey]; exact hE x hx
    unfold f_X6_layLeast_b135
    rw [t_inb (by omega), if_pos (by omega), t_inb (by omega), if_pos (by omega), t_inb (by omega), if_pos (by omega)]
    simp only [n_cl (show gLo g i < 2147483648 by omega), n_cl (show gHi g i < 2147483648 by omega), q1, q2, n_add]
    rw [t_le (by omega) (by omega)]
    by_cases h3 : d (gHi g i) ≤ v0 + (16 * gLn g i + 1)
    · rw [if_pos h3]
      exact ⟨_, spec (d (gHi g i)) (by omega), rfl⟩
    · rw [if_neg h3]
      exact ⟨_, spec (v0 + (16 * gLn g i + 1)) (by omega), rfl⟩
  rw [el, eh, n_add, t_le (by omega) (by omega)]
  by_cases h : d (gLo g i) ≤ d (gHi g i) + (16 * gLn g i + 1)
  · rw [if_pos h]
    exact main _ (by omega) (by omega)
  · rw [if_neg h]
    exact main _ (by omega) (by omega)
theorem M_pass {g : AN} {use : Nat → Bool} {w may : Nat → Int32} (hg : gLinks g) (hw : RM w g) (hm : ∀ i, i < gK g → may i = b01 (use i)) (K : Int32 → (Nat → Int32) → (Nat → Int32) → (Nat → Int32) → Option (Nat → Int32)) (x2 : Int32) : ∀ (m i fuel : Nat) (least : Nat → Int32) (d : Nat → Nat), i + m = gK g → m < fuel → E9 least d → (∀ x, d x ≤ 1000000) → ∃ least' : Nat → Int32, f_X6_layLeast_b41 K fuel x2 (nI i) w may least = K (x2 + 1) w may least' ∧ E9 least' (psr g use i m d)
  | 0, i, fuel, least, d, h1, h2, hE, hd => by
    obtain ⟨n, rfl⟩ : ∃ n, fuel = n + 1 := ⟨fuel - 1, by omega⟩
    have hk := hg.2.1
    rw [f_X6_layLeast_b41, c1, hw.2.1, t_le (by omega) (by omega), if_pos (by omega)]
    exact ⟨least, rfl, hE⟩
  | m + 1, i, fuel, least, d, h1, h2, hE, hd => by
    obtain ⟨n, rfl⟩ : ∃ n, fuel = n + 1 := ⟨fuel - 1, by omega⟩
    obtain ⟨h9, hk, hl⟩ := hg
    have hi : i < gK g := by omega
    obtain ⟨s1, s2, s3⟩ := hl i hi
    obtain ⟨e1, e2, e3, -⟩ := hw.2.2.2 i hi
    have hd1 : ∀ x, rx g use i d x ≤ 1000000 := fun x => Nat.le_trans (rx_le _ _ _ _ _) (hd x)
    rw [f_X6_layLeast_b41, c1, hw.2.1, t_le (by omega) (by omega), if_neg (by omega), t_inb (by omega), if_pos (by omega), n_cl (by omega), hm i hi, b01_eq0]
    by_cases hu : use i = true
    · rw [if_pos hu, M_of2 (by omega), Option.bind_some, M_of0 (by omega), Option.bind_some, M_of1 (by omega), Option.bind_some, e1, e2, e3, t_inb (by omega), if_pos (by omega), t_inb (by omega), if_pos (by omega), n_cl (by omega), n_cl (by omega), l16, n_mul, nI_1]
      obtain ⟨least1, hE1, e⟩ := M_step (w := w) (may := may) s1 (by omega) s3 hu hE hd (f_X6_layLeast_b41 K n) x2 (nI i)
      rw [e, nI_1]
      exact M_pass ⟨h9, hk, hl⟩ hw hm K x2 m (i + 1) n least1 _ (by omega) (by omega) hE1 hd1
    · have e : rx g use i d = d := by unfold rx; rw [if_neg hu]
      rw [if_neg hu, nI_1, psr, e]
      exact M_pass ⟨h9, hk, hl⟩ hw hm K x2 m (i + 1) n least d (by omega) (by omega) hE hd
theorem M_passes {g : AN} {use : Nat → Bool} {w may : Nat → Int32} {t : Nat} (hg : gLinks g) (hw : RM w g) (hm : ∀ i, i < gK g → may i = b01 (use i)) : ∀ (q p fuel : Nat) (least : Nat → Int32), p + q = 9 → q < fuel → E9 least (its g use (st0 1000000 t) p) → ∃ least' : Nat → Int32, f_X6_layLeast_b33 fuel (nI p) w may least = some least' ∧ E9 least' (its g use (st0 1000000 t) 9)
  | 0, p, fuel, least, h1, h2, hE => by
    obtain ⟨n, rfl⟩ : ∃ n, fuel = n + 1 := ⟨fuel - 1, by omega⟩
    have hp : p = 9 := by omega
    subst hp
    rw [f_X6_layLeast_b33, l9, t_le (by omega) (by omega), if_pos (by omega)]
    exact ⟨least, rfl, hE⟩
  | q + 1, p, fuel, least, h1, h2, hE => by
    obtain ⟨n, rfl⟩ : ∃ n, fuel = n + 1 := ⟨fuel - 1, by omega⟩
    have hk := hg.2.1
    have hd : ∀ x, its g use (st0 1000000 t) p x ≤ 1000000 := fun x => Nat.le_trans (its_le _ _ _ _ _) (st0_le _ _ _)
    rw [f_X6_layLeast_b33, l9, t_le (by omega) (by omega), if_neg (by omega)]
    obtain ⟨least1, e, hE1⟩ := M_pass hg hw hm (f_X6_layLeast_b33 n) (nI p) (gK g) 0 1000 least _ (by omega) (by omega) hE hd
    have e2 : psr g use 0 (gK g) (its g use (st0 1000000 t) p) = its g use (st0 1000000 t) (p + 1) := by
      have := psr_ps g use (its g use (st0 1000000 t) p) (gK g) 0
      rw [Nat.zero_add] at this
      exact this
    rw [e2] at hE1
    obtain ⟨least', q1, q2⟩ := M_passes hg hw hm q (p + 1) n least1 (by omega) (by omega) hE1
    refine ⟨least', ?_, q2⟩
    rw [← q1, ← nI_1]
    exact e
theorem M_least_b {w may : Nat → Int32} {t : Nat} (ht : t < 9) : ∀ (m i fuel : Nat) (least : Nat → Int32), i + m = 9 → m < fuel → (∀ x, x < i → least x = nI (st0 1000000 t x)) → ∃ least' : Nat → Int32, f_X6_layLeast_b2 fuel (nI t) (nI i) w may least = f_X6_layLeast_b33 1000 (nI 0) w may least' ∧ E9 least' (st0 1000000 t)
  | 0, i, fuel, least, h1, h2, h => by
    obtain ⟨n, rfl⟩ : ∃ n, fuel = n + 1 := ⟨fuel - 1, by omega⟩
    rw [f_X6_layLeast_b2, l9, t_le (by omega) (by omega), if_pos (by omega)]
    exact ⟨least, rfl, fun x hx => h x (by omega)⟩
  | m + 1, i, fuel, least, h1, h2, h => by
    obtain ⟨n, rfl⟩ : ∃ n, fuel = n + 1 := ⟨fuel - 1, by omega⟩
    rw [f_X6_layLeast_b2, l9, t_le (by omega) (by omega), if_neg (by omega), t_eq (by omega) (by omega), t_inb (by omega), if_pos (show i < 9 by omega), n_cl (by omega), nI_1]
    by_cases e : i = t
    · rw [if_pos e]
      exact M_least_b ht m (i + 1) n _ (by omega) (by omega) (fun x hx => by
        rw [upd_at]
        by_cases ex : x = i
        · rw [if_pos ex]; unfold st0; rw [if_pos (by omega)]; rfl
        · rw [if_neg ex]; exact h x (by omega))
    · rw [if_neg e, t_inb (by omega), if_pos (show i < 9 by omega)]
      exact M_least_b ht m (i + 1) n _ (by omega) (by omega) (fun x hx => by
        rw [upd_at]
        by_cases ex : x = i
        · rw [if_pos ex]; unfold st0; rw [if_neg (by omega)]; rfl
        · rw [if_neg ex]; exact h x (by omega))
/-- Model.layLeast -/
theorem M_layLeast {g : AN} {use : Nat → Bool} {w may least : Nat → Int32} {t : Nat} (hg : gLinks g) (hw : RM w g) (hm : ∀ i, i < gK g → may i = b01 (use i)) (ht : t < 9) : ∃ least' : Nat → Int32, f_X6_layLeast (nI t) w may least = some least' ∧ E9 least' (its g use (st0 1000000 t) 9) := by
  obtain ⟨l1', e1, h1⟩ := M_least_b (w := w) (may := may) ht 9 0 1000 least (by omega) (by omega) (fun x hx => by omega)
  obtain ⟨l2', e2, h2⟩ := M_passes (t := t) hg hw hm 9 0 1000 l1' (by omega) (by omega) h1
  exact ⟨l2', by unfold f_X6_layLeast; rw [l0, e1]; exact e2, h2⟩
/-! the two searches, with their two words for 'far' -/
def cv (v : Nat) : Nat := if v = 1000000 then 1048576 else v
theorem rx_cv {g : AN} {use : Nat → Bool} {i B : Nat} {d : Nat → Nat} (hln : gLn g i ≤ 9) (hB : B ≤ 100000) (h : ∀ x, d x = 1000000 ∨ d x ≤ B) : rx g use i (fun x => cv (d x)) = (fun x => cv (rx g use i d x)) ∧ ∀ x, rx g use i d x = 1000000 ∨ rx g use i d x ≤ B + 145 := by
  have hl := h (gLo g i)
  have hh := h (gHi g i)
  have cvl : cv (d (gLo g i)) = if d (gLo g i) = 1000000 then 1048576 else d (gLo g i) := rfl
  have cvh : cv (d (gHi g i)) = if d (gHi g i) = 1000000 then 1048576 else d (gHi g i) := rfl
  unfold rx
  by_cases hu : use i = true
  · simp only [if_pos hu]
    have k1 : (cv (d (gHi g i)) + (16 * gLn g i + 1) < cv (d (gLo g i))) ↔ (d (gHi g i) + (16 * gLn g i + 1) < d (gLo g i)) := by
      rw [cvl, cvh]; split <;> split <;> omega
    have k2 : (cv (d (gLo g i)) + (16 * gLn g i + 1) < cv (d (gHi g i))) ↔ (d (gLo g i) + (16 * gLn g i + 1) < d (gHi g i)) := by
      rw [cvl, cvh]; split <;> split <;> omega
    by_cases h1 : d (gHi g i) + (16 * gLn g i + 1) < d (gLo g i)
    · rw [if_pos (k1.mpr h1), if_pos h1]
      refine ⟨?_, fun x => ?_⟩
      · funext x
        rw [up_at]
        by_cases e : x = gLo g i
        · rw [if_pos e, e, up_at, if_pos rfl]
          have : ¬ d (gHi g i) = 1000000 := by omega
          unfold cv
          rw [if_neg this, if_neg (by omega)]
        · rw [if_neg e, up_at, if_neg e]
      · rw [up_at]
        by_cases e : x = gLo g i
        · rw [if_pos e]; omega
        · rw [if_neg e]; have := h x; omega
    · rw [if_neg (fun q => h1 (k1.mp q)), if_neg h1]
      by_cases h2 : d (gLo g i) + (16 * gLn g i + 1) < d (gHi g i)
      · rw [if_pos (k2.mpr h2), if_pos h2]
        refine ⟨?_, fun x => ?_⟩
        · funext x
          rw [up_at]
          by_cases e : x = gHi g i
          · rw [if_pos e, e, up_at, if_pos rfl]
            have : ¬ d (gLo g i) = 1000000 := by omega
            unfold cv
            rw [if_neg this, if_neg (by omega)]
          · rw [if_neg e, up_at, if_neg e]
        · rw [up_at]
          by_cases e : x = gHi g i
          · rw [if_pos e]; omega
          · rw [if_neg e]; have := h x; omega
      · rw [if_neg (fun q => h2 (k2.mp q)), if_neg h2]
        exact ⟨rfl, fun x => by have := h x; omega⟩
  · simp only [if_neg hu]
    exact ⟨trivial, fun x => by have := h x; omega⟩
theorem ps_cv {g : AN} {use : Nat → Bool} (hln : ∀ i, i < gK g → gLn g i ≤ 9) {B : Nat} {d : Nat → Nat} (hB : B ≤ 90000) (h : ∀ x, d x = 1000000 ∨ d x ≤ B) : ∀ k, k ≤ gK g → k ≤ 18 → ps g use (fun x => cv (d x)) k = (fun x => cv (ps g use d k x)) ∧ ∀ x, ps g use d k x = 1000000 ∨ ps g use d k x ≤ B + 145 * k
  | 0, _, _ => ⟨rfl, fun x => by have := h x; exact this⟩
  | k + 1, hk, hk2 => by
    obtain ⟨e, hb⟩ := ps_cv (use := use) hln hB h k (by omega) (by omega)
    obtain ⟨e2, hb2⟩ := rx_cv (use := use) (hln k (by omega)) (B := B + 145 * k) (by omega) hb
    refine ⟨?_, fun x => ?_⟩
    · rw [ps, e, e2]; rfl
    · have := hb2 x
      rw [ps]
      omega
theorem its_cv {g : AN} {use : Nat → Bool} (hln : ∀ i, i < gK g → gLn g i ≤ 9) (hk : gK g ≤ 18) (t : Nat) : ∀ p, p ≤ 9 → its g use (st0 1048576 t) p = (fun x => cv (its g use (st0 1000000 t) p x)) ∧ ∀ x, its g use (st0 1000000 t) p x = 1000000 ∨ its g use (st0 1000000 t) p x ≤ 2610 * p
  | 0, _ => by
    refine ⟨?_, fun x => ?_⟩
    · funext x
      show st0 1048576 t x = cv (st0 1000000 t x)
      unfold st0 cv
      by_cases e : x = t <;> simp [e]
    · show st0 1000000 t x = 1000000 ∨ st0 1000000 t x ≤ 0
      unfold st0
      by_cases e : x = t <;> simp [e]
  | p + 1, hp => by
    obtain ⟨e, hb⟩ := its_cv (use := use) hln hk t p (by omega)
    obtain ⟨e2, hb2⟩ := ps_cv (use := use) hln (B := 2610 * p) (by omega) hb (gK g) (Nat.le_refl _) hk
    refine ⟨?_, fun x => ?_⟩
    · rw [its, e, e2]; rfl
    · have := hb2 x
      rw [its]
      omega
