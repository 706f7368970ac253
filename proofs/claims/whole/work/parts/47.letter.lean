/-! letters, as numbers: steps, cost, cause, place, looks, how many listed, who is listed, the list, the nodes -/
abbrev LSt : Type := Nat × Nat × Nat × Nat × Nat × Nat × (Nat → Bool) × (Nat → Nat) × (Nat → Nat)
abbrev sSt (s : LSt) : Nat := s.1
abbrev sCo (s : LSt) : Nat := s.2.1
abbrev sCa (s : LSt) : Nat := s.2.2.1
abbrev sPl (s : LSt) : Nat := s.2.2.2.1
abbrev sLk (s : LSt) : Nat := s.2.2.2.2.1
abbrev sLd (s : LSt) : Nat := s.2.2.2.2.2.1
abbrev sCar (s : LSt) : Nat → Bool := s.2.2.2.2.2.2.1
abbrev sLi (s : LSt) : Nat → Nat := s.2.2.2.2.2.2.2.1
abbrev sVi (s : LSt) : Nat → Nat := s.2.2.2.2.2.2.2.2
/-- dead at a node -/
def dh (g : AN) (u : Nat) : Nat → Bool := fun i => !gAl g i && (oe g i u).isSome
def luse (g : AN) (bl : Bool) (s : LSt) : Nat → Bool := fun i => gMp g i && !(if bl = true then dh g (sPl s) i else sCar s i)
abbrev sLost (s : LSt) (c : Nat) : LSt := (sSt s, sCo s, c, sPl s, sLk s + 1, sLd s, sCar s, sLi s, sVi s)
abbrev sGo (g : AN) (s : LSt) (l v : Nat) : LSt := (sSt s + 1, sCo s + gLn g l, sCa s, v, sLk s + 1, sLd s, sCar s, sLi s, va_up (sVi s) (sSt s + 1) v)
abbrev sAdd (s : LSt) (l : Nat) : LSt := (sSt s, sCo s, sCa s, sPl s, sLk s + 1, sLd s + 1, va_up (sCar s) l true, va_up (sLi s) (sLd s) l, sVi s)
def lstep (g : AN) (bl : Bool) (room t : Nat) (s : LSt) : LSt :=
  if DD g (luse g bl s) t (sPl s) < 1000000 then
    match FL g (luse g bl s) (DD g (luse g bl s) t) (sPl s) with
    | none => sLost s 1
    | some l => if gAl g l = true then (if 40 ≤ sSt s then sLost s 3 else sGo g s l ((oe g l (sPl s)).getD 0)) else (if room ≤ sLd s then sLost s 2 else sAdd s l)
  else sLost s 1
def lrun (g : AN) (bl : Bool) (room t : Nat) : Nat → LSt → LSt
  | 0, s => s
  | m + 1, s => if sCa s = 0 ∧ sPl s ≠ t then lrun g bl room t m (lstep g bl room t s) else s
def LI (g : AN) (room : Nat) (s : LSt) : Prop := sSt s ≤ 40 ∧ sCo s ≤ 9 * sSt s ∧ sCa s ≤ 3 ∧ sPl s < gN g ∧ sLd s ≤ room ∧ (sCa s = 0 → sLk s = sSt s + sLd s) ∧ sVi s (sSt s) = sPl s ∧ (∀ i, sCar s i = true ↔ ∃ j, j < sLd s ∧ sLi s j = i) ∧ (∀ j, j < sLd s → sLi s j < gK g) ∧ (∀ j k, j < sLd s → k < sLd s → sLi s j = sLi s k → j = k) ∧ (∀ j, j ≤ sSt s → sVi s j < gN g)
/-- what a step is -/
theorem lstep_cases {g : AN} (hg : gLinks g) {bl : Bool} {room t : Nat} {s : LSt} (ht : t < gN g) (hp : sPl s ≠ t) :
    (DD g (luse g bl s) t (sPl s) = 1000000 ∧ lstep g bl room t s = sLost s 1) ∨
    ∃ l v, DD g (luse g bl s) t (sPl s) < 1000000 ∧ FL g (luse g bl s) (DD g (luse g bl s) t) (sPl s) = some l ∧ l < gK g ∧ luse g bl s l = true ∧ oe g l (sPl s) = some v ∧ v < gN g ∧
      ((gAl g l = true ∧ 40 ≤ sSt s ∧ lstep g bl room t s = sLost s 3) ∨
       (gAl g l = true ∧ sSt s < 40 ∧ lstep g bl room t s = sGo g s l v) ∨
       (gAl g l = false ∧ bl = false ∧ room ≤ sLd s ∧ lstep g bl room t s = sLost s 2) ∨
       (gAl g l = false ∧ bl = false ∧ sLd s < room ∧ sCar s l = false ∧ lstep g bl room t s = sAdd s l)) := by
  by_cases h : DD g (luse g bl s) t (sPl s) < 1000000
  · obtain ⟨l, v, q1, q2, q3, q4, q5, -⟩ := dd_tight hg ht hp h
    refine Or.inr ⟨l, v, h, q1, q2, q3, q4, q5, ?_⟩
    unfold lstep
    rw [if_pos h, q1]
    show (_ ∧ _ ∧ (if gAl g l = true then (if 40 ≤ sSt s then sLost s 3 else sGo g s l ((oe g l (sPl s)).getD 0)) else (if room ≤ sLd s then sLost s 2 else sAdd s l)) = _) ∨ (_ ∧ _ ∧ (if gAl g l = true then (if 40 ≤ sSt s then sLost s 3 else sGo g s l ((oe g l (sPl s)).getD 0)) else (if room ≤ sLd s then sLost s 2 else sAdd s l)) = _) ∨ (_ ∧ _ ∧ _ ∧ (if gAl g l = true then (if 40 ≤ sSt s then sLost s 3 else sGo g s l ((oe g l (sPl s)).getD 0)) else (if room ≤ sLd s then sLost s 2 else sAdd s l)) = _) ∨ (_ ∧ _ ∧ _ ∧ _ ∧ (if gAl g l = true then (if 40 ≤ sSt s then sLost s 3 else sGo g s l ((oe g l (sPl s)).getD 0)) else (if room ≤ sLd s then sLost s 2 else sAdd s l)) = _)
    by_cases ha : gAl g l = true
    · rw [if_pos ha, q4]
      by_cases h4 : 40 ≤ sSt s
      · rw [if_pos h4]; exact Or.inl ⟨ha, h4, rfl⟩
      · rw [if_neg h4]; exact Or.inr (Or.inl ⟨ha, by omega, rfl⟩)
    · have ha' : gAl g l = false := by simpa using ha
      have hbl : bl = false := by
        cases bl with
        | false => rfl
        | true =>
          exfalso
          have : luse g true s l = (gMp g l && !(dh g (sPl s) l)) := rfl
          rw [this] at q3
          have : dh g (sPl s) l = true := by unfold dh; rw [ha', q4]; rfl
          rw [this] at q3
          simp at q3
      have hc : sCar s l = false := by
        subst hbl
        have : luse g false s l = (gMp g l && !(sCar s l)) := rfl
        rw [this] at q3
        revert q3
        cases sCar s l <;> simp
      rw [if_neg ha]
      by_cases h5 : room ≤ sLd s
      · rw [if_pos h5]; exact Or.inr (Or.inr (Or.inl ⟨ha', hbl, h5, rfl⟩))
      · rw [if_neg h5]; exact Or.inr (Or.inr (Or.inr ⟨ha', hbl, by omega, hc, rfl⟩))
  · have e : DD g (luse g bl s) t (sPl s) = 1000000 := by have := DD_le (g := g) (use := luse g bl s) (t := t) (x := sPl s); omega
    refine Or.inl ⟨e, ?_⟩
    unfold lstep
    rw [if_neg h]
theorem lstep_inv {g : AN} (hg : gLinks g) {bl : Bool} {room t : Nat} {s : LSt} (ht : t < gN g) (hp : sPl s ≠ t) (hc : sCa s = 0) (h : LI g room s) : LI g room (lstep g bl room t s) := by
  obtain ⟨i1, i2, i3, i4, i5, i6, i7, i8, i9, i10, i11⟩ := h
  have lost : ∀ c, 1 ≤ c → c ≤ 3 → LI g room (sLost s c) := fun c h1 h3 => ⟨i1, i2, h3, i4, i5, fun q => by exfalso; have : c = 0 := q; omega, i7, i8, i9, i10, i11⟩
  rcases lstep_cases (bl := bl) (room := room) hg ht hp with ⟨-, e⟩ | ⟨l, v, -, -, hl, -, -, hv, hh⟩
  · rw [e]; exact lost 1 (by omega) (by omega)
  · have h9 := (hg.2.2 l hl).2.2
    rcases hh with ⟨-, -, e⟩ | ⟨-, h4, e⟩ | ⟨-, -, -, e⟩ | ⟨-, -, h5, hcl, e⟩
    · rw [e]; exact lost 3 (by omega) (by omega)
    · rw [e]
      refine ⟨?_, ?_, i3, hv, i5, ?_, ?_, i8, i9, i10, ?_⟩
      · show sSt s + 1 ≤ 40; omega
      · show sCo s + gLn g l ≤ 9 * (sSt s + 1); omega
      · intro _; show sLk s + 1 = sSt s + 1 + sLd s; have := i6 hc; omega
      · show va_up (sVi s) (sSt s + 1) v (sSt s + 1) = v; rw [up_at, if_pos rfl]
      · intro j hj
        show va_up (sVi s) (sSt s + 1) v j < gN g
        have hj2 : j ≤ sSt s + 1 := hj
        rw [up_at]
        by_cases q : j = sSt s + 1
        · rw [if_pos q]; exact hv
        · rw [if_neg q]; exact i11 j (by omega)
    · rw [e]; exact lost 2 (by omega) (by omega)
    · rw [e]
      refine ⟨i1, i2, i3, i4, ?_, ?_, i7, ?_, ?_, ?_, i11⟩
      · show sLd s + 1 ≤ room; omega
      · intro _; show sLk s + 1 = sSt s + (sLd s + 1); have := i6 hc; omega
      · intro i
        show va_up (sCar s) l true i = true ↔ ∃ j, j < sLd s + 1 ∧ va_up (sLi s) (sLd s) l j = i
        rw [up_at]
        by_cases q : i = l
        · rw [if_pos q]
          exact ⟨fun _ => ⟨sLd s, by omega, by rw [up_at, if_pos rfl, q]⟩, fun _ => rfl⟩
        · rw [if_neg q, i8]
          constructor
          · rintro ⟨j, j1, j2⟩
            exact ⟨j, by omega, by rw [up_at, if_neg (by omega)]; exact j2⟩
          · rintro ⟨j, j1, j2⟩
            rw [up_at] at j2
            by_cases q2 : j = sLd s
            · rw [if_pos q2] at j2; exact absurd j2.symm q
            · rw [if_neg q2] at j2; exact ⟨j, by omega, j2⟩
      · intro j hj
        show va_up (sLi s) (sLd s) l j < gK g
        have hj2 : j < sLd s + 1 := hj
        rw [up_at]
        by_cases q : j = sLd s
        · rw [if_pos q]; exact hl
        · rw [if_neg q]; exact i9 j (by omega)
      · intro j k hj hk hjk
        have hj2 : j < sLd s + 1 := hj
        have hk2 : k < sLd s + 1 := hk
        have hjk2 : va_up (sLi s) (sLd s) l j = va_up (sLi s) (sLd s) l k := hjk
        rw [up_at, up_at] at hjk2
        have no : ∀ z, z < sLd s → sLi s z ≠ l := fun z hz q => by
          have := (i8 l).mpr ⟨z, hz, q⟩
          rw [hcl] at this
          cases this
        by_cases q1 : j = sLd s
        · rw [if_pos q1] at hjk2
          by_cases q2 : k = sLd s
          · omega
          · rw [if_neg q2] at hjk2; exact absurd hjk2.symm (no k (by omega))
        · rw [if_neg q1] at hjk2
          by_cases q2 : k = sLd s
          · rw [if_pos q2] at hjk2; exact absurd hjk2 (no j (by omega))
          · rw [if_neg q2] at hjk2; exact i10 j k (by omega) (by omega) hjk2
theorem lrun_inv {g : AN} (hg : gLinks g) {bl : Bool} {room t : Nat} (ht : t < gN g) : ∀ (m : Nat) (s : LSt), LI g room s → LI g room (lrun g bl room t m s)
  | 0, s, h => h
  | m + 1, s, h => by
    rw [lrun]
    by_cases c : sCa s = 0 ∧ sPl s ≠ t
    · rw [if_pos c]; exact lrun_inv hg ht m _ (lstep_inv hg ht c.2 c.1 h)
    · rw [if_neg c]; exact h
theorem lstep_lk {g : AN} (hg : gLinks g) {bl : Bool} {room t : Nat} {s : LSt} (ht : t < gN g) (hp : sPl s ≠ t) : sLk (lstep g bl room t s) = sLk s + 1 := by
  rcases lstep_cases (bl := bl) (room := room) hg ht hp with ⟨-, e⟩ | ⟨l, v, -, -, -, -, -, -, hh⟩
  · rw [e]
  · rcases hh with ⟨-, -, e⟩ | ⟨-, h4, e⟩ | ⟨-, -, -, e⟩ | ⟨-, -, h5, hcl, e⟩ <;> rw [e]
/-- it comes to an end -/
theorem lrun_end {g : AN} (hg : gLinks g) {bl : Bool} {room t : Nat} (ht : t < gN g) (hroom : room ≤ 18) : ∀ (m : Nat) (s : LSt), LI g room s → sLk s + m = 59 → ¬ (sCa (lrun g bl room t m s) = 0 ∧ sPl (lrun g bl room t m s) ≠ t)
  | 0, s, h, hm => fun c => by
    have c1 : sCa s = 0 := c.1
    have := h.2.2.2.2.2.1 c1
    have := h.1
    have := h.2.2.2.2.1
    omega
  | m + 1, s, h, hm => by
    rw [lrun]
    by_cases c : sCa s = 0 ∧ sPl s ≠ t
    · rw [if_pos c]
      exact lrun_end hg ht hroom m _ (lstep_inv hg ht c.2 c.1 h) (by rw [lstep_lk hg ht c.2]; omega)
    · rw [if_neg c]; exact c
abbrev lini (x : Nat) (vi li : Nat → Nat) : LSt := (0, 0, 0, x, 0, 0, fun _ => false, li, va_up vi 0 x)
theorem lini_inv {g : AN} {room x : Nat} (hx : x < gN g) (vi li : Nat → Nat) : LI g room (lini x vi li) := by
  refine ⟨Nat.zero_le _, Nat.zero_le _, Nat.zero_le _, hx, Nat.zero_le _, fun _ => rfl, rfl, fun i => ?_, fun j hj => absurd hj (Nat.not_lt_zero _), fun j k hj => absurd hj (Nat.not_lt_zero _), fun j hj => ?_⟩
  · constructor
    · intro h; cases h
    · rintro ⟨j, j1, -⟩; exact absurd j1 (Nat.not_lt_zero _)
  · have : j = 0 := Nat.le_zero.mp hj
    subst this
    exact hx
/-! the class's letter -/
def LC (g : AN) (s : LSt) (st co ca pl lk li ld : Int32) (vi ml mh : Nat → Int32) : Prop := st = nI (sSt s) ∧ co = nI (sCo s) ∧ ca = nI (sCa s) ∧ pl = nI (sPl s) ∧ lk = nI (sLk s) ∧ (∀ i, i < 32 → bt li i = sCar s i) ∧ ld = nI (sLd s) ∧ (∀ j, j ≤ sSt s → vi j = nI (sVi s j)) ∧ ∀ j, j < sLd s → ml j = nI (gLo g (sLi s j)) ∧ mh j = nI (gHi g (sLi s j))
theorem p_with1 (x : Int32) {i : Nat} (hi : i < 32) {j : Nat} (hj : j < 32) : bt (f_X5_withBit x (nI i) 1) j = if j = i then true else bt x j := p_withBit x hi true hj
theorem p_with0 (x : Int32) {i : Nat} (hi : i < 32) {j : Nat} (hj : j < 32) : bt (f_X5_withBit x (nI i) 0) j = if j = i then false else bt x j := p_withBit x hi false hj
theorem C_dead_b {g : AN} {A : Int32} {low high len : Nat → Int32} {u : Nat} (hg : gLinks g) (hr : CL low high len g) (hu : u < 9) (hA : ∀ i, i < gK g → bt A i = gAl g i) : ∀ (m i fuel : Nat) (X : Int32), i + m = gK g → m < fuel → (∀ j, j < 32 → bt X j = (decide (j < i) && dh g u j)) → ∃ D : Int32, f_X1_deadLinksAt_b4 fuel (nI u) X (nI i) (nI (gK g)) A low high = some D ∧ ∀ j, j < 32 → bt D j = (decide (j < gK g) && dh g u j)
  | 0, i, fuel, X, h1, h2, h => by
    obtain ⟨n, rfl⟩ : ∃ n, fuel = n + 1 := ⟨fuel - 1, by omega⟩
    have hk := hg.2.1
    have hi : i = gK g := by omega
    rw [f_X1_deadLinksAt_b4, t_le (by omega) (by omega), if_pos (by omega)]
    exact ⟨X, rfl, fun j hj => by rw [← hi]; exact h j hj⟩
  | m + 1, i, fuel, X, h1, h2, h => by
    obtain ⟨n, rfl⟩ : ∃ n, fuel = n + 1 := ⟨fuel - 1, by omega⟩
    have hk := hg.2.1
    have hi : i < gK g := by omega
    rw [f_X1_deadLinksAt_b4, t_le (by omega) (by omega), if_neg (by omega), p_bit' A (by omega), b01_eq0, hA i hi, C_otherEnd hg hr hi (by omega), Option.bind_some, nI_1]
    have go : ∀ Y : Int32, (∀ j, j < 32 → bt Y j = if j = i then dh g u i else bt X j) → ∃ D : Int32, f_X1_deadLinksAt_b4 n (nI u) Y (nI (i + 1)) (nI (gK g)) A low high = some D ∧ ∀ j, j < 32 → bt D j = (decide (j < gK g) && dh g u j) := by
      intro Y hY
      refine C_dead_b hg hr hu hA m (i + 1) n Y (by omega) (by omega) (fun j hj => ?_)
      rw [hY j hj]
      by_cases e : j = i
      · rw [if_pos e, e]; simp
      · rw [if_neg e, h j hj]
        have : (decide (j < i + 1)) = decide (j < i) := by congr 1; exact propext ⟨fun q => by omega, fun q => by omega⟩
        rw [this]
    have same : dh g u i = false → ∀ j, j < 32 → bt X j = if j = i then dh g u i else bt X j := by
      intro e j hj
      by_cases q : j = i
      · rw [if_pos q, e, h j hj, q]; simp
      · rw [if_neg q]
    by_cases ha : gAl g i = true
    · rw [if_pos ha]
      exact go X (same (by unfold dh; rw [ha]; rfl))
    · have ha' : gAl g i = false := by simpa using ha
      rw [if_neg ha]
      cases ho : oe g i u with
      | none =>
        rw [if_pos (by rfl)]
        exact go X (same (by unfold dh; rw [ho]; simp))
      | some v =>
        have hv := oe_lt (n := gN g) ⟨(hg.2.2 i hi).1, (hg.2.2 i hi).2.1⟩ ho
        have h9 := hg.1
        rw [if_neg (show ¬ enI (-1) (some v) = (-1 : Int32) from n_ne (by omega) (by decide))]
        exact go _ (fun j hj => by
          rw [p_with1 X (by omega) hj]
          by_cases q : j = i
          · rw [if_pos q, if_pos q]; unfold dh; rw [ho, ha']; rfl
          · rw [if_neg q, if_neg q])
theorem C_dead {g : AN} {A : Int32} {low high len : Nat → Int32} {u : Nat} (hg : gLinks g) (hr : CL low high len g) (hu : u < 9) (hA : ∀ i, i < gK g → bt A i = gAl g i) : ∃ D : Int32, f_X1_deadLinksAt (nI u) (nI (gK g)) A low high = some D ∧ ∀ j, j < 32 → bt D j = (decide (j < gK g) && dh g u j) := C_dead_b hg hr hu hA (gK g) 0 1000 0 (by omega) (by have := hg.2.1; omega) (fun j hj => by rw [b_0]; simp)
abbrev k12T : Type := Int32 → Int32 → Int32 → Int32 → Int32 → Int32 → Int32 → Int32 → Int32 → Int32 → Int32 → Int32 → (Nat → Int32) → (Nat → Int32) → (Nat → Int32) → (Nat → Int32) → Int32 → Int32 → Int32 → Int32 → Int32 → (Nat → Int32) → (Nat → Int32) → (Nat → Int32) → Option (Int32 × Int32 × Int32 × Int32 × Int32 × Int32 × Int32 × (Nat → Int32) × (Nat → Int32) × (Nat → Int32) × (Nat → Int32) × Int32)
/-- one round of the class's letter -/
theorem C_round {g : AN} {A I : Int32} {low high len : Nat → Int32} {bl : Bool} {room t : Nat} {s : LSt} (hg : gLinks g) (hr : CL low high len g) (hA : ∀ i, i < gK g → bt A i = gAl g i) (hI : ∀ i, i < gK g → bt I i = gMp g i) (ht : t < gN g) (hp : sPl s ≠ t) (hroom : room ≤ 18) (hs : LI g room s) {st co ca pl lk li ld : Int32} {vi ml mh : Nat → Int32} (h : LC g s st co ca pl lk li ld vi ml mh) (K : k12T) (x3 x5 x6 S : Int32) (hS : ∀ i, i < gK g → bt S i = if bl = true then dh g (sPl s) i else sCar s i) (far : Nat → Int32) (yu : Int32) :
    ∃ (st' co' ca' pl' lk' li' ld' : Int32) (vi' ml' mh' far' : Nat → Int32) (yu' : Int32), LC g (lstep g bl room t s) st' co' ca' pl' lk' li' ld' vi' ml' mh' ∧ f_X0_travel_b56 K (nI t) x3 (nI room) x5 x6 S st co ca pl lk li ld vi ml mh far yu (nI (gN g)) (nI (gK g)) A I low high len = K (nI t) x3 (nI room) x5 (x6 + 1) st' co' ca' pl' lk' li' ld' vi' ml' mh' far' yu' (nI (gN g)) (nI (gK g)) A I low high len := by
  obtain ⟨e1, e2, e3, e4, e5, e6, e7, e8, e9⟩ := h
  obtain ⟨i1, i2, i3, i4, i5, i6, i7, i8, i9, i10, i11⟩ := hs
  subst e1 e2 e3 e4 e5 e7
  have h9 := hg.1
  have hk := hg.2.1
  have hU : ∀ i, i < gK g → bt (I &&& (S ^^^ (-1 : Int32))) i = luse g bl s i := by
    intro i hi
    rw [b_and, b_xor, b_m1 i (by omega), hI i hi, hS i hi]
    unfold luse
    simp
  obtain ⟨far', m1, m2⟩ := C_meas (U := I &&& (S ^^^ (-1 : Int32))) (yu := yu) (far := far) hg hr ht hU
  have m3 := C_fl (u := sPl s) hg hr ht (by omega) hU m2
  unfold f_X0_travel_b56
  rw [m1, Option.bind_some]
  show ∃ (st' co' ca' pl' lk' li' ld' : Int32) (vi' ml' mh' far' : Nat → Int32) (yu' : Int32), LC g (lstep g bl room t s) st' co' ca' pl' lk' li' ld' vi' ml' mh' ∧ (f_X4_firstLinkFrom (nI (sPl s)) _ _ (nI (gK g)) low high len).bind _ = _
  rw [m3, Option.bind_some]
  rcases lstep_cases (bl := bl) (room := room) hg ht hp with ⟨d, e⟩ | ⟨l, v, d, hf, hl, hul, ho, hv, hh⟩
  · rw [if_neg (by omega), e]
    unfold f_X0_tryLink
    rw [if_pos (by rfl), Option.bind_some]
    exact ⟨_, _, _, _, _, _, _, _, _, _, _, _, ⟨rfl, rfl, rfl, rfl, nI_1 _, e6, rfl, e8, e9⟩, rfl⟩
  · have hln := (hg.2.2 l hl)
    rw [if_pos d, hf]
    unfold f_X0_tryLink
    rw [if_neg (show ¬ enI (-1) (some l) = (-1 : Int32) from n_ne (by omega) (by decide))]
    show ∃ (st' co' ca' pl' lk' li' ld' : Int32) (vi' ml' mh' far' : Nat → Int32) (yu' : Int32), LC g (lstep g bl room t s) st' co' ca' pl' lk' li' ld' vi' ml' mh' ∧ (if f_X5_bit A (nI l) = 0 then (f_X0_meetDead (nI l) (nI room) _ _ _ _ _ _ _).bind _ else if nI (sSt s) < 40 then (f_X0_goAlong (nI l) _ _ _ _ _ _ _).bind _ else _).bind _ = _
    rw [p_bit' A (by omega), b01_eq0, hA l hl, l40, t_lt (by omega) (by omega)]
    rcases hh with ⟨ha, h4, e⟩ | ⟨ha, h4, e⟩ | ⟨ha, hb, h5, e⟩ | ⟨ha, hb, h5, hcl, e⟩
    · rw [if_pos ha, if_neg (by omega), Option.bind_some, e]
      exact ⟨_, _, _, _, _, _, _, _, _, _, _, _, ⟨rfl, rfl, rfl, rfl, nI_1 _, e6, rfl, e8, e9⟩, rfl⟩
    · rw [if_pos ha, if_pos h4, e]
      unfold f_X0_goAlong
      rw [C_otherEnd hg hr hl (by omega), ho, Option.bind_some, t_inb (by omega), if_pos (by omega), nI_1, t_inb (by omega), if_pos (by omega), n_cl (by omega), n_cl (by omega), (hr l hl).2.2, n_add, Option.bind_some, Option.bind_some]
      refine ⟨_, _, _, _, _, _, _, _, _, _, _, _, ⟨rfl, rfl, rfl, rfl, nI_1 _, e6, rfl, ?_, e9⟩, rfl⟩
      intro j hj
      show upd vi (sSt s + 1) (nI v) j = nI (va_up (sVi s) (sSt s + 1) v j)
      have hj2 : j ≤ sSt s + 1 := hj
      rw [upd_at, up_at]
      by_cases q : j = sSt s + 1
      · rw [if_pos q, if_pos q]
      · rw [if_neg q, if_neg q]; exact e8 j (by omega)
    · rw [if_neg (by rw [ha]; decide), e]
      unfold f_X0_meetDead
      rw [t_le (by omega) (by omega), if_pos h5, Option.bind_some, Option.bind_some]
      exact ⟨_, _, _, _, _, _, _, _, _, _, _, _, ⟨rfl, rfl, rfl, rfl, nI_1 _, e6, rfl, e8, e9⟩, rfl⟩
    · rw [if_neg (by rw [ha]; decide), e]
      unfold f_X0_meetDead
      rw [t_le (by omega) (by omega), if_neg (by omega), l18, t_lt (by omega) (by omega), if_pos (by omega), t_inb (by omega), if_pos (by omega), t_inb (by omega), if_pos (by omega), n_cl (by omega), n_cl (by omega), (hr l hl).1, (hr l hl).2.1, nI_1, Option.bind_some, Option.bind_some]
      refine ⟨_, _, _, _, _, _, _, _, _, _, _, _, ⟨rfl, rfl, rfl, rfl, nI_1 _, ?_, rfl, e8, ?_⟩, rfl⟩
      · intro i hi
        show bt (f_X5_withBit li (nI l) 1) i = va_up (sCar s) l true i
        rw [p_with1 li (by omega) hi, up_at, e6 i hi]
      · intro j hj
        show upd ml (sLd s) (nI (gLo g l)) j = nI (gLo g (va_up (sLi s) (sLd s) l j)) ∧ upd mh (sLd s) (nI (gHi g l)) j = nI (gHi g (va_up (sLi s) (sLd s) l j))
        have hj2 : j < sLd s + 1 := hj
        rw [upd_at, upd_at, up_at]
        by_cases q : j = sLd s
        · rw [if_pos q, if_pos q, if_pos q]; exact ⟨rfl, rfl⟩
        · rw [if_neg q, if_neg q, if_neg q]; exact e9 j (by omega)
theorem C_travel_b {g : AN} {A I : Int32} {low high len : Nat → Int32} {bl : Bool} {room t : Nat} (hg : gLinks g) (hr : CL low high len g) (hA : ∀ i, i < gK g → bt A i = gAl g i) (hI : ∀ i, i < gK g → bt I i = gMp g i) (ht : t < gN g) (hroom : room ≤ 18) : ∀ (m i fuel : Nat) (s : LSt) (st co ca pl lk li ld : Int32) (vi ml mh far : Nat → Int32) (yu : Int32), i + m = 59 → m < fuel → LI g room s → LC g s st co ca pl lk li ld vi ml mh →
    ∃ (st' co' ca' pl' lk' li' ld' : Int32) (vi' ml' mh' far' : Nat → Int32) (yu' : Int32), f_X0_travel_b12 fuel (nI t) (b01 bl) (nI room) (nI 59) (nI i) st co ca pl lk li ld vi ml mh far yu (nI (gN g)) (nI (gK g)) A I low high len = some (st', co', ca', pl', lk', li', ld', vi', ml', mh', far', yu') ∧ LC g (lrun g bl room t m s) st' co' ca' pl' lk' li' ld' vi' ml' mh'
  | 0, i, fuel, s, st, co, ca, pl, lk, li, ld, vi, ml, mh, far, yu, h1, h2, hs, h => by
    obtain ⟨n, rfl⟩ : ∃ n, fuel = n + 1 := ⟨fuel - 1, by omega⟩
    rw [f_X0_travel_b12, t_le (by omega) (by omega), if_pos (by omega)]
    exact ⟨_, _, _, _, _, _, _, _, _, _, _, _, rfl, h⟩
  | m + 1, i, fuel, s, st, co, ca, pl, lk, li, ld, vi, ml, mh, far, yu, h1, h2, hs, h => by
    obtain ⟨n, rfl⟩ : ∃ n, fuel = n + 1 := ⟨fuel - 1, by omega⟩
    have h9 := hg.1
    have hpl := hs.2.2.2.1
    have hca := hs.2.2.1
    rw [f_X0_travel_b12, t_le (by omega) (by omega), if_neg (by omega), lrun]
    have ea : ca = nI (sCa s) := h.2.2.1
    have ep : pl = nI (sPl s) := h.2.2.2.1
    rw [ea, ep, l0, t_eq (by omega) (by omega), t_eq (by omega) (by omega), ← l0, ← ea, ← ep, b01_eq0]
    by_cases c1 : sCa s = 0
    · rw [if_pos c1]
      by_cases c2 : sPl s = t
      · rw [if_pos c2, if_neg (fun q => q.2 c2)]
        exact ⟨_, _, _, _, _, _, _, _, _, _, _, _, rfl, h⟩
      · rw [if_neg c2, if_pos (show sCa s = 0 ∧ sPl s ≠ t from ⟨c1, c2⟩)]
        have fin : ∀ S : Int32, (∀ i, i < gK g → bt S i = if bl = true then dh g (sPl s) i else sCar s i) → ∃ (st' co' ca' pl' lk' li' ld' : Int32) (vi' ml' mh' far' : Nat → Int32) (yu' : Int32), f_X0_travel_b56 (f_X0_travel_b12 n) (nI t) (b01 bl) (nI room) (nI 59) (nI i) S st co ca pl lk li ld vi ml mh far yu (nI (gN g)) (nI (gK g)) A I low high len = some (st', co', ca', pl', lk', li', ld', vi', ml', mh', far', yu') ∧ LC g (lrun g bl room t m (lstep g bl room t s)) st' co' ca' pl' lk' li' ld' vi' ml' mh' := by
          intro S hS
          obtain ⟨st', co', ca', pl', lk', li', ld', vi', ml', mh', far', yu', r1, r2⟩ := C_round hg hr hA hI ht c2 hroom hs h (f_X0_travel_b12 n) (b01 bl) (nI 59) (nI i) S hS far yu
          rw [r2, nI_1]
          exact C_travel_b hg hr hA hI ht hroom m (i + 1) n _ _ _ _ _ _ _ _ _ _ _ _ _ (by omega) (by omega) (lstep_inv hg ht c2 c1 hs) r1
        cases hb : bl with
        | false =>
          rw [if_neg (show ¬ (false = true) by decide), ← hb]
          refine fin li (fun i hi => ?_)
          rw [hb, if_neg (by decide)]
          exact h.2.2.2.2.2.1 i (by have := hg.2.1; omega)
        | true =>
          rw [if_pos (show true = true from rfl), ep]
          obtain ⟨D, d1, d2⟩ := C_dead (u := sPl s) hg hr (by omega) hA
          rw [d1, Option.bind_some, ← ep, ← hb]
          refine fin D (fun i hi => ?_)
          rw [hb, if_pos rfl, d2 i (by have := hg.2.1; omega)]
          simp [hi]
    · rw [if_neg c1, if_neg (fun q => c1 q.1)]
      exact ⟨_, _, _, _, _, _, _, _, _, _, _, _, rfl, h⟩
/-- where a letter from x to t ends -/
def lend (g : AN) (bl : Bool) (room x t : Nat) : LSt := lrun g bl room t 59 (lini x (fun _ => 0) (fun _ => 0))
/-- Letter.travel -/
theorem C_travel {g : AN} {A I : Int32} {low high len : Nat → Int32} {bl : Bool} {room x t : Nat} (hg : gLinks g) (hr : CL low high len g) (hA : ∀ i, i < gK g → bt A i = gAl g i) (hI : ∀ i, i < gK g → bt I i = gMp g i) (hx : x < gN g) (ht : t < gN g) (hroom : room ≤ 18) (st co ca pl lk li ld : Int32) (vi ml mh far : Nat → Int32) (yu : Int32) :
    ∃ (st' co' ca' pl' lk' li' ld' : Int32) (vi' ml' mh' far' : Nat → Int32) (yu' : Int32), f_X0_travel (nI x) (nI t) (b01 bl) (nI room) st co ca pl lk li ld vi ml mh far yu (nI (gN g)) (nI (gK g)) A I low high len = some (st', co', ca', pl', lk', li', ld', vi', ml', mh', far', yu') ∧ LC g (lend g bl room x t) st' co' ca' pl' lk' li' ld' vi' ml' mh' := by
  unfold f_X0_travel f_X0_startAt
  refine C_travel_b (room := room) (bl := bl) hg hr hA hI ht hroom 59 0 1000 (lini x (fun _ => 0) (fun _ => 0)) _ _ _ _ _ _ _ _ _ _ _ _ (by omega) (by omega) (lini_inv hx _ _) ⟨rfl, rfl, rfl, rfl, rfl, fun i hi => b_0 i, rfl, fun j hj => ?_, fun j hj => absurd hj (Nat.not_lt_zero _)⟩
  have : j = 0 := Nat.le_zero.mp hj
  subst this
  rfl
theorem lend_inv {g : AN} (hg : gLinks g) {bl : Bool} {room x t : Nat} (hx : x < gN g) (ht : t < gN g) : LI g room (lend g bl room x t) := lrun_inv hg ht 59 _ (lini_inv hx _ _)
