/-! shortest ways on numbers: passes over the links, their fixed point, ranks -/
/-- link i laid on the distances d -/
def rx (g : AN) (use : Nat → Bool) (i : Nat) (d : Nat → Nat) : Nat → Nat :=
  if use i = true then
    if d (gHi g i) + (16 * gLn g i + 1) < d (gLo g i) then va_up d (gLo g i) (d (gHi g i) + (16 * gLn g i + 1))
    else if d (gLo g i) + (16 * gLn g i + 1) < d (gHi g i) then va_up d (gHi g i) (d (gLo g i) + (16 * gLn g i + 1))
    else d
  else d
/-- the first k links -/
def ps (g : AN) (use : Nat → Bool) (d : Nat → Nat) : Nat → Nat → Nat
  | 0 => d
  | k + 1 => rx g use k (ps g use d k)
def its (g : AN) (use : Nat → Bool) (d : Nat → Nat) : Nat → Nat → Nat
  | 0 => d
  | p + 1 => ps g use (its g use d p) (gK g)
theorem up_at {α : Type} (f : Nat → α) (k : Nat) (v : α) (j : Nat) : va_up f k v j = if j = k then v else f j := rfl
theorem rx_le (g : AN) (use : Nat → Bool) (i : Nat) (d : Nat → Nat) (x : Nat) : rx g use i d x ≤ d x := by
  unfold rx
  by_cases h : use i = true
  · rw [if_pos h]
    by_cases h1 : d (gHi g i) + (16 * gLn g i + 1) < d (gLo g i)
    · rw [if_pos h1, up_at]
      by_cases e : x = gLo g i
      · rw [if_pos e, e]; omega
      · rw [if_neg e]; exact Nat.le_refl _
    · rw [if_neg h1]
      by_cases h2 : d (gLo g i) + (16 * gLn g i + 1) < d (gHi g i)
      · rw [if_pos h2, up_at]
        by_cases e : x = gHi g i
        · rw [if_pos e, e]; omega
        · rw [if_neg e]; exact Nat.le_refl _
      · rw [if_neg h2]; exact Nat.le_refl _
  · rw [if_neg h]; exact Nat.le_refl _
theorem ps_le (g : AN) (use : Nat → Bool) (d : Nat → Nat) (x : Nat) : ∀ k, ps g use d k x ≤ d x
  | 0 => Nat.le_refl _
  | k + 1 => Nat.le_trans (rx_le g use k _ x) (ps_le g use d x k)
theorem its_le (g : AN) (use : Nat → Bool) (d : Nat → Nat) (x : Nat) : ∀ p, its g use d p x ≤ d x
  | 0 => Nat.le_refl _
  | p + 1 => Nat.le_trans (ps_le g use _ x _) (its_le g use d x p)
theorem its_mono (g : AN) (use : Nat → Bool) (d : Nat → Nat) (x p : Nat) : ∀ q, its g use d (p + q) x ≤ its g use d p x
  | 0 => Nat.le_refl _
  | q + 1 => Nat.le_trans (ps_le g use _ x _) (its_mono g use d x p q)
theorem rx_sat {g : AN} {use : Nat → Bool} {i : Nat} (hu : use i = true) (hn : gLo g i ≠ gHi g i) (d : Nat → Nat) : rx g use i d (gLo g i) ≤ d (gHi g i) + (16 * gLn g i + 1) ∧ rx g use i d (gHi g i) ≤ d (gLo g i) + (16 * gLn g i + 1) := by
  unfold rx
  rw [if_pos hu]
  by_cases h1 : d (gHi g i) + (16 * gLn g i + 1) < d (gLo g i)
  · rw [if_pos h1, up_at, up_at, if_pos rfl, if_neg (Ne.symm hn)]; omega
  · rw [if_neg h1]
    by_cases h2 : d (gLo g i) + (16 * gLn g i + 1) < d (gHi g i)
    · rw [if_pos h2, up_at, up_at, if_pos rfl, if_neg hn]; omega
    · rw [if_neg h2]; omega
/-- no usable link is a short cut -/
def Fix (g : AN) (use : Nat → Bool) (d : Nat → Nat) : Prop := ∀ i, i < gK g → use i = true → d (gLo g i) ≤ d (gHi g i) + (16 * gLn g i + 1) ∧ d (gHi g i) ≤ d (gLo g i) + (16 * gLn g i + 1)
theorem rx_low {g : AN} {use : Nat → Bool} {F d : Nat → Nat} {i : Nat} (hF : use i = true → F (gLo g i) ≤ F (gHi g i) + (16 * gLn g i + 1) ∧ F (gHi g i) ≤ F (gLo g i) + (16 * gLn g i + 1)) (h : ∀ x, F x ≤ d x) (x : Nat) : F x ≤ rx g use i d x := by
  unfold rx
  by_cases hu : use i = true
  · rw [if_pos hu]
    have hf := hF hu
    have a1 := h (gLo g i)
    have a2 := h (gHi g i)
    by_cases h1 : d (gHi g i) + (16 * gLn g i + 1) < d (gLo g i)
    · rw [if_pos h1, up_at]
      by_cases e : x = gLo g i
      · rw [if_pos e, e]; omega
      · rw [if_neg e]; exact h x
    · rw [if_neg h1]
      by_cases h2 : d (gLo g i) + (16 * gLn g i + 1) < d (gHi g i)
      · rw [if_pos h2, up_at]
        by_cases e : x = gHi g i
        · rw [if_pos e, e]; omega
        · rw [if_neg e]; exact h x
      · rw [if_neg h2]; exact h x
  · rw [if_neg hu]; exact h x
theorem ps_low {g : AN} {use : Nat → Bool} {F d : Nat → Nat} (hF : Fix g use F) (h : ∀ x, F x ≤ d x) : ∀ k, k ≤ gK g → ∀ x, F x ≤ ps g use d k x
  | 0, _, x => h x
  | k + 1, hk, x => rx_low (hF k (by omega)) (ps_low hF h k (by omega)) x
theorem its_low {g : AN} {use : Nat → Bool} {F d : Nat → Nat} (hF : Fix g use F) (h : ∀ x, F x ≤ d x) : ∀ p x, F x ≤ its g use d p x
  | 0, x => h x
  | p + 1, x => ps_low hF (its_low hF h p) _ (Nat.le_refl _) x
theorem ps_sat {g : AN} {use : Nat → Bool} (hg : ∀ i, i < gK g → gLo g i ≠ gHi g i) (d : Nat → Nat) : ∀ k, k ≤ gK g → ∀ i, i < k → use i = true → ps g use d k (gLo g i) ≤ d (gHi g i) + (16 * gLn g i + 1) ∧ ps g use d k (gHi g i) ≤ d (gLo g i) + (16 * gLn g i + 1)
  | 0, _, i, h, _ => by omega
  | k + 1, hk, i, h, hu => by
    by_cases e : i = k
    · subst e
      have h1 := rx_sat hu (hg i (by omega)) (ps g use d i)
      have h2 := ps_le g use d (gLo g i) i
      have h3 := ps_le g use d (gHi g i) i
      exact ⟨Nat.le_trans h1.1 (by omega), Nat.le_trans h1.2 (by omega)⟩
    · have h1 := ps_sat hg d k (by omega) i (by omega) hu
      exact ⟨Nat.le_trans (rx_le g use k _ _) h1.1, Nat.le_trans (rx_le g use k _ _) h1.2⟩
theorem rx_fix {g : AN} {use : Nat → Bool} {d : Nat → Nat} {i : Nat} (hF : use i = true → d (gLo g i) ≤ d (gHi g i) + (16 * gLn g i + 1) ∧ d (gHi g i) ≤ d (gLo g i) + (16 * gLn g i + 1)) : rx g use i d = d := by
  unfold rx
  by_cases hu : use i = true
  · have hf := hF hu
    rw [if_pos hu, if_neg (by omega), if_neg (by omega)]
  · rw [if_neg hu]
theorem ps_fix {g : AN} {use : Nat → Bool} {d : Nat → Nat} (hF : Fix g use d) : ∀ k, k ≤ gK g → ps g use d k = d
  | 0, _ => rfl
  | k + 1, hk => by
    rw [ps, ps_fix hF k (by omega)]
    exact rx_fix (hF k (by omega))
theorem its_fix {g : AN} {use : Nat → Bool} {d : Nat → Nat} (hF : Fix g use d) : ∀ p, its g use d p = d
  | 0 => rfl
  | p + 1 => by rw [its, its_fix hF p, ps_fix hF _ (Nat.le_refl _)]
theorem fix_of_same {g : AN} {use : Nat → Bool} {d : Nat → Nat} (hg : ∀ i, i < gK g → gLo g i ≠ gHi g i) (h : ∀ i, i < gK g → ps g use d (gK g) (gLo g i) = d (gLo g i) ∧ ps g use d (gK g) (gHi g i) = d (gHi g i)) : Fix g use d := by
  intro i hi hu
  have h1 := ps_sat (use := use) hg d _ (Nat.le_refl _) i hi hu
  have h2 := h i hi
  rw [h2.1, h2.2] at h1
  exact h1
theorem its_add (g : AN) (use : Nat → Bool) (d : Nat → Nat) (p : Nat) : ∀ q, its g use d (p + q) = its g use (its g use d p) q
  | 0 => rfl
  | q + 1 => by
    rw [← Nat.add_assoc, its, its_add g use d p q, its]
/-- the sum over nine nodes falls until nothing is a short cut -/
def sm (d : Nat → Nat) : Nat → Nat
  | 0 => 0
  | k + 1 => sm d k + d k
theorem sm_le {d e : Nat → Nat} (h : ∀ x, e x ≤ d x) : ∀ k, sm e k ≤ sm d k
  | 0 => Nat.le_refl _
  | k + 1 => Nat.add_le_add (sm_le h k) (h k)
theorem sm_lt {d e : Nat → Nat} (h : ∀ x, e x ≤ d x) {y : Nat} (hy : e y < d y) : ∀ k, y < k → sm e k < sm d k
  | 0, hk => by omega
  | k + 1, hk => by
    rw [sm, sm]
    by_cases e1 : y = k
    · subst e1
      have := sm_le h y
      omega
    · have := sm_lt h hy k (by omega)
      have := h k
      omega
theorem fix_ex {g : AN} {use : Nat → Bool} (hg : ∀ i, i < gK g → gLo g i ≠ gHi g i ∧ gLo g i < 9 ∧ gHi g i < 9) : ∀ (n : Nat) (d : Nat → Nat), sm d 9 ≤ n → ∃ p, Fix g use (its g use d p)
  | n, d, hn => by
    by_cases hF : Fix g use d
    · exact ⟨0, hF⟩
    · have hlt : sm (its g use d 1) 9 < sm d 9 := by
        have hx : ∃ i, i < gK g ∧ use i = true ∧ (d (gHi g i) + (16 * gLn g i + 1) < d (gLo g i) ∨ d (gLo g i) + (16 * gLn g i + 1) < d (gHi g i)) := by
          refine Classical.byContradiction fun hc => hF fun i hi hu => ?_
          refine Classical.byContradiction fun hc2 => hc ⟨i, hi, hu, ?_⟩
          omega
        obtain ⟨i, hi, hu, hc⟩ := hx
        have h1 := ps_sat (use := use) (fun i hi => (hg i hi).1) d _ (Nat.le_refl _) i hi hu
        have hb := hg i hi
        rcases hc with hc | hc
        · exact sm_lt (fun x => its_le g use d x 1) (y := gLo g i) (Nat.lt_of_le_of_lt h1.1 hc) 9 hb.2.1
        · exact sm_lt (fun x => its_le g use d x 1) (y := gHi g i) (Nat.lt_of_le_of_lt h1.2 hc) 9 hb.2.2
      match n, hn with
      | 0, hn => omega
      | n + 1, hn =>
        obtain ⟨p, hp⟩ := fix_ex hg n (its g use d 1) (by omega)
        exact ⟨1 + p, by rw [its_add]; exact hp⟩
/-- all nodes that are reached but the target have a neighbour before them -/
def Pred (g : AN) (use : Nat → Bool) (c t : Nat) (d : Nat → Nat) : Prop := d t = 0 ∧ ∀ x, x ≠ t → d x < c → ∃ i, i < gK g ∧ use i = true ∧ ((x = gLo g i ∧ d (gHi g i) + (16 * gLn g i + 1) ≤ d x) ∨ (x = gHi g i ∧ d (gLo g i) + (16 * gLn g i + 1) ≤ d x))
theorem rx_pred {g : AN} {use : Nat → Bool} {c t i : Nat} {d : Nat → Nat} (hi : i < gK g) (hn : gLo g i ≠ gHi g i) (h : Pred g use c t d) : Pred g use c t (rx g use i d) := by
  have keep : ∀ (y z : Nat), rx g use i d y = z → z = d y → ∀ x, x ≠ t → x = y → d x < c → ∃ j, j < gK g ∧ use j = true ∧ ((x = gLo g j ∧ rx g use i d (gHi g j) + (16 * gLn g j + 1) ≤ rx g use i d x) ∨ (x = gHi g j ∧ rx g use i d (gLo g j) + (16 * gLn g j + 1) ≤ rx g use i d x)) := by
    intro y z hz hy x hxt hxy hlt
    subst hxy
    obtain ⟨j, hj, hu, hc⟩ := h.2 x hxt hlt
    refine ⟨j, hj, hu, ?_⟩
    have a1 := rx_le g use i d (gHi g j)
    have a2 := rx_le g use i d (gLo g j)
    rw [hz, hy]
    rcases hc with ⟨c1, c2⟩ | ⟨c1, c2⟩
    · exact Or.inl ⟨c1, by omega⟩
    · exact Or.inr ⟨c1, by omega⟩
  by_cases hu : use i = true
  · by_cases h1 : d (gHi g i) + (16 * gLn g i + 1) < d (gLo g i)
    · have e : rx g use i d = va_up d (gLo g i) (d (gHi g i) + (16 * gLn g i + 1)) := by unfold rx; rw [if_pos hu, if_pos h1]
      have ht : t ≠ gLo g i := fun q => by rw [← q, h.1] at h1; omega
      refine ⟨by rw [e, up_at, if_neg ht]; exact h.1, fun x hx hlt => ?_⟩
      by_cases ex : x = gLo g i
      · refine ⟨i, hi, hu, Or.inl ⟨ex, ?_⟩⟩
        rw [e, up_at, up_at, if_pos ex, if_neg (Ne.symm hn)]
        exact Nat.le_refl _
      · have e2 : rx g use i d x = d x := by rw [e, up_at, if_neg ex]
        rw [e2] at hlt
        exact keep x _ e2 rfl x hx rfl hlt
    · by_cases h2 : d (gLo g i) + (16 * gLn g i + 1) < d (gHi g i)
      · have e : rx g use i d = va_up d (gHi g i) (d (gLo g i) + (16 * gLn g i + 1)) := by unfold rx; rw [if_pos hu, if_neg h1, if_pos h2]
        have ht : t ≠ gHi g i := fun q => by rw [← q, h.1] at h2; omega
        refine ⟨by rw [e, up_at, if_neg ht]; exact h.1, fun x hx hlt => ?_⟩
        by_cases ex : x = gHi g i
        · refine ⟨i, hi, hu, Or.inr ⟨ex, ?_⟩⟩
          rw [e, up_at, up_at, if_pos ex, if_neg hn]
          exact Nat.le_refl _
        · have e2 : rx g use i d x = d x := by rw [e, up_at, if_neg ex]
          rw [e2] at hlt
          exact keep x _ e2 rfl x hx rfl hlt
      · have e : rx g use i d = d := by unfold rx; rw [if_pos hu, if_neg h1, if_neg h2]
        rw [e]; exact h
  · have e : rx g use i d = d := by unfold rx; rw [if_neg hu]
    rw [e]; exact h
theorem ps_pred {g : AN} {use : Nat → Bool} {c t : Nat} {d : Nat → Nat} (hg : ∀ i, i < gK g → gLo g i ≠ gHi g i) (h : Pred g use c t d) : ∀ k, k ≤ gK g → Pred g use c t (ps g use d k)
  | 0, _ => h
  | k + 1, hk => rx_pred (by omega) (hg k (by omega)) (ps_pred hg h k (by omega))
theorem its_pred {g : AN} {use : Nat → Bool} {c t : Nat} {d : Nat → Nat} (hg : ∀ i, i < gK g → gLo g i ≠ gHi g i) (h : Pred g use c t d) : ∀ p, Pred g use c t (its g use d p)
  | 0 => h
  | p + 1 => ps_pred hg (its_pred hg h p) _ (Nat.le_refl _)
def st0 (c t : Nat) : Nat → Nat := fun x => if x = t then 0 else c
theorem st0_pred (g : AN) (use : Nat → Bool) (c t : Nat) : Pred g use c t (st0 c t) := ⟨by unfold st0; rw [if_pos rfl], fun x hx hlt => by unfold st0 at hlt; rw [if_neg hx] at hlt; omega⟩
theorem q_cnt_mono {f h : Nat → Bool} (hfh : ∀ i, f i = true → h i = true) : ∀ k, q_cnt f k ≤ q_cnt h k
  | 0 => Nat.le_refl _
  | k + 1 => by
    have := q_cnt_mono hfh k
    rw [q_cnt, q_cnt]
    by_cases e : f k = true
    · rw [if_pos e, if_pos (hfh k e)]; omega
    · rw [if_neg e]; omega
theorem q_cnt_lt {f h : Nat → Bool} (hfh : ∀ i, f i = true → h i = true) {y : Nat} (h1 : f y = false) (h2 : h y = true) : ∀ k, y < k → q_cnt f k + 1 ≤ q_cnt h k
  | 0, hk => by omega
  | k + 1, hk => by
    rw [q_cnt, q_cnt]
    by_cases e : y = k
    · subst e
      have := q_cnt_mono hfh y
      rw [if_neg (by rw [h1]; simp), if_pos h2]
      omega
    · have := q_cnt_lt hfh h1 h2 k (by omega)
      by_cases e2 : f k = true
      · rw [if_pos e2, if_pos (hfh k e2)]; omega
      · rw [if_neg e2]; omega
/-- the rank of a node: how many nodes are nearer -/
def rnk (F : Nat → Nat) (n x : Nat) : Nat := q_cnt (fun z => decide (F z < F x)) n
theorem rnk_lt {F : Nat → Nat} {n x y : Nat} (hy : y < n) (h : F y < F x) : rnk F n y + 1 ≤ rnk F n x := by
  unfold rnk
  exact q_cnt_lt (fun i hi => by simp only [decide_eq_true_eq] at hi ⊢; omega) (y := y) (by simp) (by simpa using h) n hy
theorem rnk_le {F : Nat → Nat} {n x : Nat} (hx : x < n) : rnk F n x + 1 ≤ n := by
  have h1 : q_cnt (fun z => decide (F z < F x)) n + 1 ≤ q_cnt (fun _ => true) n := q_cnt_lt (fun _ _ => rfl) (y := x) (by simp) rfl n hx
  exact Nat.le_trans h1 (q_cnt_le _ n)
/-- what the distances are in the end, by ranks -/
theorem bf_main {g : AN} {use : Nat → Bool} {c t n : Nat} (hn : n ≤ 9) (ht : t < n) (hc : 0 < c) (hg : ∀ i, i < gK g → gLo g i < gHi g i ∧ gHi g i < n) : ∃ F : Nat → Nat, Fix g use F ∧ Pred g use c t F ∧ (∀ x, F x ≤ c) ∧ (∀ x, F x < c → x < n) ∧ (∀ p, n ≤ p + 1 → its g use (st0 c t) p = F) ∧ ∀ x, F x < c → F x % 16 ≤ rnk F n x := by
  have hne : ∀ i, i < gK g → gLo g i ≠ gHi g i := fun i hi => by have := hg i hi; omega
  obtain ⟨P, hP⟩ := fix_ex (use := use) (fun i hi => ⟨hne i hi, by have := hg i hi; omega, by have := hg i hi; omega⟩) _ (st0 c t) (Nat.le_refl _)
  generalize hF : its g use (st0 c t) P = F at hP
  have hpr : Pred g use c t F := by rw [← hF]; exact its_pred hne (st0_pred g use c t) P
  have hle0 : ∀ x, F x ≤ st0 c t x := fun x => by rw [← hF]; exact its_le _ _ _ _ _
  have hle : ∀ x, F x ≤ c := fun x => Nat.le_trans (hle0 x) (by unfold st0; by_cases e : x = t <;> simp [e])
  have hlow : ∀ p x, F x ≤ its g use (st0 c t) p x := fun p x => its_low hP hle0 p x
  have hdom : ∀ x, F x < c → x < n := by
    intro x hx
    by_cases e : x = t
    · omega
    · obtain ⟨i, hi, -, h | h⟩ := hpr.2 x e hx
      · have := hg i hi; omega
      · have := hg i hi; omega
  -- a tight neighbour
  have tight : ∀ x, x ≠ t → F x < c → ∃ i y, i < gK g ∧ use i = true ∧ y < n ∧ F x = F y + (16 * gLn g i + 1) ∧ ((x = gLo g i ∧ y = gHi g i) ∨ (x = gHi g i ∧ y = gLo g i)) := by
    intro x hx hlt
    obtain ⟨i, hi, hu, h⟩ := hpr.2 x hx hlt
    have hf := hP i hi hu
    have hb := hg i hi
    rcases h with ⟨h1, h2⟩ | ⟨h1, h2⟩
    · exact ⟨i, gHi g i, hi, hu, by omega, by rw [h1] at h2 ⊢; omega, Or.inl ⟨h1, rfl⟩⟩
    · exact ⟨i, gLo g i, hi, hu, by omega, by rw [h1] at h2 ⊢; omega, Or.inr ⟨h1, rfl⟩⟩
  have settled : ∀ v x, F x = v → F x < c → its g use (st0 c t) (rnk F n x) x = F x := by
    intro v
    induction v using Nat.strongRecOn with
    | _ v ih =>
      intro x hv hlt
      by_cases e : x = t
      · subst e
        have h1 := (its_pred hne (st0_pred g use c x) (rnk F n x)).1
        rw [h1, hpr.1]
      · obtain ⟨i, y, hi, hu, hy, he, hxy⟩ := tight x e hlt
        have h1 := ih (F y) (by omega) y rfl (by omega)
        have h2 := rnk_lt (n := n) hy (show F y < F x by omega)
        obtain ⟨q, hq⟩ : ∃ q, rnk F n x = rnk F n y + 1 + q := ⟨rnk F n x - (rnk F n y + 1), by omega⟩
        have h3 := its_mono g use (st0 c t) x (rnk F n y + 1) q
        have h4 := ps_sat (use := use) hne (its g use (st0 c t) (rnk F n y)) _ (Nat.le_refl _) i hi hu
        have h5 := hlow (rnk F n x) x
        rw [← hq] at h3
        have h6 : its g use (st0 c t) (rnk F n y + 1) x ≤ F x := by
          rw [its]
          rcases hxy with ⟨a, b⟩ | ⟨a, b⟩
          · have h7 := h4.1
            rw [← b, h1, ← a] at h7
            rw [he]; exact h7
          · have h7 := h4.2
            rw [← b, h1, ← a] at h7
            rw [he]; exact h7
        omega
  refine ⟨F, hP, hpr, hle, hdom, fun p hp => ?_, ?_⟩
  · funext x
    by_cases hx : F x < c
    · have h1 := settled _ x rfl hx
      have h2 := rnk_le (F := F) (hdom x hx)
      obtain ⟨q, hq⟩ : ∃ q, p = rnk F n x + q := ⟨p - rnk F n x, by omega⟩
      have h3 := its_mono g use (st0 c t) x (rnk F n x) q
      rw [← hq] at h3
      have h4 := hlow p x
      omega
    · have h1 := hlow p x
      have h2 := its_le g use (st0 c t) x p
      have h3 : st0 c t x ≤ c := by unfold st0; by_cases e : x = t <;> simp [e]
      omega
  · intro x
    have key : ∀ v x, F x = v → F x < c → F x % 16 ≤ rnk F n x := by
      intro v
      induction v using Nat.strongRecOn with
      | _ v ih =>
        intro x hv hlt
        by_cases e : x = t
        · subst e
          rw [hpr.1]
          omega
        · obtain ⟨i, y, hi, hu, hy, he, hxy⟩ := tight x e hlt
          have h1 := ih (F y) (by omega) y rfl (by omega)
          have h2 := rnk_lt (n := n) hy (show F y < F x by omega)
          have h3 := rnk_le (F := F) (hdom x hlt)
          omega
    exact key _ x rfl
