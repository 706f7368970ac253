/-! the reference's letter -/
theorem enI_some (z : Int32) (j : Nat) : enI z (some j) = nI j := rfl
theorem enI_none (z : Int32) : enI z none = z := rfl
def LM (s : LSt) (ic li no : Nat → Int32) (ld st co ca lk : Int32) : Prop := (∀ i, i < 18 → ic i = b01 (sCar s i)) ∧ (∀ j, j < sLd s → li j = nI (sLi s j)) ∧ (∀ j, j ≤ sSt s → no j = nI (sVi s j)) ∧ ld = nI (sLd s) ∧ st = nI (sSt s) ∧ co = nI (sCo s) ∧ ca = nI (sCa s) ∧ lk = nI (sLk s)
theorem M_goOn_b {g : AN} {w least ic li : Nat → Int32} {bl : Bool} {s : LSt} {ld ca lk x2 x4 : Int32} (hg : gLinks g) (hw : RM w g) (hpl : sPl s < 9) (hic : ∀ i, i < 18 → ic i = b01 (sCar s i)) : ∀ (m i fuel : Nat) (may : Nat → Int32), i + m = gK g → m < fuel → (∀ j, j < i → may j = b01 (luse g bl s j)) → ∃ may' : Nat → Int32, f_X6_goOn_b3 fuel (nI (sPl s)) x2 (b01 bl) x4 (nI i) w may least ic li ld ca lk = f_X6_goOn_b3 1 (nI (sPl s)) x2 (b01 bl) x4 (nI (gK g)) w may' least ic li ld ca lk ∧ ∀ j, j < gK g → may' j = b01 (luse g bl s j)
  | 0, i, fuel, may, h1, h2, h => by
    obtain ⟨n, rfl⟩ : ∃ n, fuel = n + 1 := ⟨fuel - 1, by omega⟩
    have hk := hg.2.1
    have hi : i = gK g := by omega
    subst hi
    refine ⟨may, ?_, h⟩
    rw [f_X6_goOn_b3, f_X6_goOn_b3, c1, hw.2.1]
    rw [t_le (by omega) (by omega), if_pos (Nat.le_refl _), t_le (by omega) (by omega), if_pos (Nat.le_refl _)]
  | m + 1, i, fuel, may, h1, h2, h => by
    obtain ⟨n, rfl⟩ : ∃ n, fuel = n + 1 := ⟨fuel - 1, by omega⟩
    have hk := hg.2.1
    have h9 := hg.1
    have hi : i < gK g := by omega
    obtain ⟨-, -, -, e4, e5⟩ := hw.2.2.2 i hi
    have go : ∀ b : Bool, b = luse g bl s i → ∃ may' : Nat → Int32, f_X6_goOn_b3 n (nI (sPl s)) x2 (b01 bl) x4 (nI (i + 1)) w (upd may i (b01 b)) least ic li ld ca lk = f_X6_goOn_b3 1 (nI (sPl s)) x2 (b01 bl) x4 (nI (gK g)) w may' least ic li ld ca lk ∧ ∀ j, j < gK g → may' j = b01 (luse g bl s j) := by
      intro b hb
      refine M_goOn_b hg hw hpl hic m (i + 1) n _ (by omega) (by omega) (fun j hj => ?_)
      rw [upd_at]
      by_cases e : j = i
      · rw [if_pos e, hb, e]
      · rw [if_neg e]; exact h j (by omega)
    have hin : ∀ {α : Type} {x y : α}, (if inb (nI i) 18 = true then x else y) = x := fun {α x y} => by rw [t_inb (by omega), if_pos (by omega)]
    have b41 : ∀ d : Bool, d = dh g (sPl s) i → ∃ may' : Nat → Int32, f_X6_goOn_b41 (f_X6_goOn_b3 n) (nI (sPl s)) x2 (b01 bl) x4 (nI i) (b01 d) w may least ic li ld ca lk = f_X6_goOn_b3 1 (nI (sPl s)) x2 (b01 bl) x4 (nI (gK g)) w may' least ic li ld ca lk ∧ ∀ j, j < gK g → may' j = b01 (luse g bl s j) := by
      intro d hd
      unfold f_X6_goOn_b41
      rw [M_of4 (by omega), Option.bind_some, e5, b01_eq1, b01_eq0, b01_eq0]
      simp only [hin]
      rw [n_cl (by omega), hic i (by omega), b01_eq0, nI_1]
      have el : luse g bl s i = (gMp g i && !(if bl = true then dh g (sPl s) i else sCar s i)) := rfl
      by_cases hm : gMp g i = true
      · rw [if_pos hm]
        by_cases hb : bl = true
        · rw [if_pos hb]
          by_cases hdd : d = true
          · rw [if_pos hdd]
            exact go false (by rw [el, hm, if_pos hb, ← hd, hdd]; rfl)
          · rw [if_neg hdd]
            exact go true (by rw [el, hm, if_pos hb, ← hd]; simp [hdd])
        · rw [if_neg hb]
          by_cases hc : sCar s i = true
          · rw [if_pos hc]
            exact go false (by rw [el, hm, if_neg hb, hc]; rfl)
          · rw [if_neg hc]
            exact go true (by rw [el, hm, if_neg hb]; simp [hc])
      · rw [if_neg hm]
        exact go false (by rw [el]; simp [hm])
    rw [f_X6_goOn_b3, c1, hw.2.1, t_le (by omega) (by omega), if_neg (by omega), M_of3 (by omega), Option.bind_some, e4, b01_eq0, M_otherEnd hg hw hi (by omega), Option.bind_some]
    by_cases ha : gAl g i = true
    · rw [if_pos ha]
      exact b41 false (by unfold dh; rw [ha]; rfl)
    · rw [if_neg ha]
      cases ho : oe g i (sPl s) with
      | none =>
        rw [if_pos (by rfl)]
        exact b41 false (by unfold dh; rw [ho]; simp)
      | some v =>
        have hv := oe_lt (n := gN g) ⟨(hg.2.2 i hi).1, (hg.2.2 i hi).2.1⟩ ho
        rw [if_neg (show ¬ enI (-9) (some v) = (-9 : Int32) from n_ne (by omega) (by decide))]
        exact b41 true (by unfold dh; rw [ho]; simp [ha])
theorem M_round {g : AN} {w : Nat → Int32} {bl : Bool} {room t : Nat} {s : LSt} (hg : gLinks g) (hw : RM w g) (ht : t < gN g) (hp : sPl s ≠ t) (hc : sCa s = 0) (hroom : room ≤ 18) (hs : LI g room s) {ic li no may least : Nat → Int32} {ld st co ca lk : Int32} (h : LM s ic li no ld st co ca lk) (n : Nat) :
    ∃ (may' least' ic' li' no' : Nat → Int32) (ld' st' co' ca' lk' : Int32), LM (lstep g bl room t s) ic' li' no' ld' st' co' ca' lk' ∧ f_X6_runLetter_b56 (n + 1) (nI t) (b01 bl) (nI room) w may least ic li no ld st co ca lk = f_X6_runLetter_b56 n (nI t) (b01 bl) (nI room) w may' least' ic' li' no' ld' st' co' ca' lk' := by
  obtain ⟨e1, e2, e3, e4, e5, e6, e7, e8⟩ := h
  obtain ⟨i1, i2, i3, i4, i5, i6, i7, i8, i9, i10, i11⟩ := hs
  subst e4 e5 e6 e7 e8
  have h9 := hg.1
  have hk := hg.2.1
  have en : no (sSt s) = nI (sPl s) := by rw [e3 _ (Nat.le_refl _), i7]
  obtain ⟨may', g1, g2⟩ := M_goOn_b (bl := bl) (s := s) (least := least) (ic := ic) (li := li) (ld := nI (sLd s)) (ca := nI (sCa s)) (lk := nI (sLk s)) (x2 := nI t) (x4 := nI room) hg hw (by omega) e1 (gK g) 0 1000 may (by omega) (by omega) (fun j hj => by omega)
  obtain ⟨least', m1, m2⟩ := M_layLeast (least := least) hg hw g2 (show t < 9 by omega)
  have m2' : E9 least' (DD g (luse g bl s) t) := m2
  have hgo : f_X6_goOn (nI (sPl s)) (nI t) (b01 bl) (nI room) w may least ic li (nI (sLd s)) (nI (sCa s)) (nI (sLk s)) = f_X6_goOn_b3 1 (nI (sPl s)) (nI t) (b01 bl) (nI room) (nI (gK g)) w may' least ic li (nI (sLd s)) (nI (sCa s)) (nI (sLk s)) := g1
  have mf := M_first (u := sPl s) hg hw g2 (by omega) m2' (fun x => Nat.le_trans DD_le (by omega))
  rw [f_X6_runLetter_b56, t_inb (by omega), if_pos (by omega), n_cl (by omega), en, t_eq (by omega) (by omega), if_neg hp, hc]
  rw [if_pos (show nI 0 = (0 : Int32) from rfl), ← hc, hgo, f_X6_goOn_b3, c1, hw.2.1, t_le (by omega) (by omega), if_pos (Nat.le_refl _), m1, Option.bind_some, t_inb (by omega), if_pos (show sPl s < 9 by omega), n_cl (by omega), m2' (sPl s) (by omega), mf, lfar]
  have hD := DD_le (g := g) (use := luse g bl s) (t := t) (x := sPl s)
  rw [t_eq (by omega) (by omega)]
  rcases lstep_cases (bl := bl) (room := room) hg ht hp with ⟨d, e⟩ | ⟨l, v, d, hf, hl, hul, ho, hv, hh⟩
  · rw [if_pos d, e, Option.bind_some]
    show ∃ (may' least' ic' li' no' : Nat → Int32) (ld' st' co' ca' lk' : Int32), _ ∧ (if (-9 : Int32) = -9 then _ else _) = _
    rw [if_pos rfl]
    unfold f_X6_runLetter_b119
    rw [if_pos rfl]
    exact ⟨_, _, _, _, _, _, _, _, _, _, ⟨e1, e2, e3, rfl, rfl, rfl, rfl, nI_1 _⟩, rfl⟩
  · have hln := (hg.2.2 l hl)
    obtain ⟨-, -, w3, w4, -⟩ := hw.2.2.2 l hl
    have nine : ¬ nI l = (-9 : Int32) := n_ne (by omega) (by decide)
    rw [if_neg (by omega), hf, enI_some, Option.bind_some]
    show ∃ (may' least' ic' li' no' : Nat → Int32) (ld' st' co' ca' lk' : Int32), _ ∧ ((f_X6_of (nI l) 3 w).bind _).bind _ = _
    rw [M_of3 (by omega), Option.bind_some, w4, b01_eq1]
    rcases hh with ⟨ha, h4, e⟩ | ⟨ha, h4, e⟩ | ⟨ha, hb, h5, e⟩ | ⟨ha, hb, h5, hcl, e⟩
    · rw [if_pos ha, Option.bind_some, e]
      show ∃ (may' least' ic' li' no' : Nat → Int32) (ld' st' co' ca' lk' : Int32), _ ∧ (if nI l = -9 then _ else if nI (sSt s) = 40 then _ else _) = _
      rw [if_neg nine, if_pos (show nI (sSt s) = 40 by rw [show sSt s = 40 by omega]; rfl)]
      exact ⟨_, _, _, _, _, _, _, _, _, _, ⟨e1, e2, e3, rfl, rfl, rfl, rfl, nI_1 _⟩, rfl⟩
    · rw [if_pos ha, Option.bind_some, e]
      show ∃ (may' least' ic' li' no' : Nat → Int32) (ld' st' co' ca' lk' : Int32), _ ∧ (if nI l = -9 then _ else if nI (sSt s) = 40 then _ else _) = _
      rw [if_neg nine, l40, t_eq (by omega) (by omega), if_neg (by omega)]
      unfold f_X6_runLetter_b119
      rw [if_neg nine, t_inb (by omega), if_pos (by omega), n_cl (by omega), en, M_otherEnd hg hw hl (by omega), ho, enI_some, Option.bind_some, nI_1, t_inb (by omega), if_pos (by omega), M_of2 (by omega), Option.bind_some, w3, n_add, n_cl (by omega)]
      refine ⟨_, _, _, _, _, _, _, _, _, _, ⟨e1, e2, ?_, rfl, rfl, rfl, rfl, nI_1 _⟩, rfl⟩
      intro j hj
      show upd no (sSt s + 1) (nI v) j = nI (va_up (sVi s) (sSt s + 1) v j)
      have hj2 : j ≤ sSt s + 1 := hj
      rw [upd_at, up_at]
      by_cases q : j = sSt s + 1
      · rw [if_pos q, if_pos q]
      · rw [if_neg q, if_neg q]; exact e3 j (by omega)
    · rw [if_neg (by rw [ha]; decide), t_eq (by omega) (by omega), if_pos (by omega), e, Option.bind_some]
      show ∃ (may' least' ic' li' no' : Nat → Int32) (ld' st' co' ca' lk' : Int32), _ ∧ (if (-9 : Int32) = -9 then _ else _) = _
      rw [if_pos rfl]
      unfold f_X6_runLetter_b119
      rw [if_pos rfl]
      exact ⟨_, _, _, _, _, _, _, _, _, _, ⟨e1, e2, e3, rfl, rfl, rfl, rfl, nI_1 _⟩, rfl⟩
    · rw [if_neg (by rw [ha]; decide), t_eq (by omega) (by omega), if_neg (by omega), t_inb (by omega), if_pos (by omega), t_inb (by omega), if_pos (by omega), n_cl (by omega), n_cl (by omega), e, Option.bind_some]
      show ∃ (may' least' ic' li' no' : Nat → Int32) (ld' st' co' ca' lk' : Int32), _ ∧ (if (-9 : Int32) = -9 then _ else _) = _
      rw [if_pos rfl]
      unfold f_X6_runLetter_b119
      rw [if_pos rfl]
      refine ⟨_, _, _, _, _, _, _, _, _, _, ⟨?_, ?_, e3, nI_1 _, rfl, rfl, rfl, nI_1 _⟩, rfl⟩
      · intro i hi
        show upd ic l 1 i = b01 (va_up (sCar s) l true i)
        rw [upd_at, up_at]
        by_cases q : i = l
        · rw [if_pos q, if_pos q]; rfl
        · rw [if_neg q, if_neg q]; exact e1 i hi
      · intro j hj
        show upd li (sLd s) (nI l) j = nI (va_up (sLi s) (sLd s) l j)
        have hj2 : j < sLd s + 1 := hj
        rw [upd_at, up_at]
        by_cases q : j = sLd s
        · rw [if_pos q, if_pos q]
        · rw [if_neg q, if_neg q]; exact e2 j (by omega)
theorem M_stop {g : AN} {w : Nat → Int32} {bl : Bool} {room t : Nat} {s : LSt} (hg : gLinks g) (ht : t < gN g) (hstop : ¬ (sCa s = 0 ∧ sPl s ≠ t)) (hs : LI g room s) {ic li no may least : Nat → Int32} {ld st co ca lk : Int32} (h : LM s ic li no ld st co ca lk) (n : Nat) : f_X6_runLetter_b56 (n + 1) (nI t) (b01 bl) (nI room) w may least ic li no ld st co ca lk = some (may, least, ic, li, no, ld, st, co, ca, lk) := by
  obtain ⟨e1, e2, e3, e4, e5, e6, e7, e8⟩ := h
  obtain ⟨i1, i2, i3, i4, i5, i6, i7, i8, i9, i10, i11⟩ := hs
  have h9 := hg.1
  subst e5 e7
  have en : no (sSt s) = nI (sPl s) := by rw [e3 _ (Nat.le_refl _), i7]
  rw [f_X6_runLetter_b56, t_inb (by omega), if_pos (by omega), n_cl (by omega), en, t_eq (by omega) (by omega)]
  by_cases c : sPl s = t
  · rw [if_pos c]
  · rw [if_neg c, l0, t_eq (by omega) (by omega), if_neg (fun q => hstop ⟨q, c⟩)]
theorem M_run_b {g : AN} {w : Nat → Int32} {bl : Bool} {room t : Nat} (hg : gLinks g) (hw : RM w g) (ht : t < gN g) (hroom : room ≤ 18) : ∀ (m fuel : Nat) (s : LSt) (may least ic li no : Nat → Int32) (ld st co ca lk : Int32), sLk s + m = 59 → m < fuel → LI g room s → LM s ic li no ld st co ca lk →
    ∃ (may' least' ic' li' no' : Nat → Int32) (ld' st' co' ca' lk' : Int32), f_X6_runLetter_b56 fuel (nI t) (b01 bl) (nI room) w may least ic li no ld st co ca lk = some (may', least', ic', li', no', ld', st', co', ca', lk') ∧ LM (lrun g bl room t m s) ic' li' no' ld' st' co' ca' lk'
  | 0, fuel, s, may, least, ic, li, no, ld, st, co, ca, lk, h1, h2, hs, h => by
    obtain ⟨n, rfl⟩ : ∃ n, fuel = n + 1 := ⟨fuel - 1, by omega⟩
    exact ⟨_, _, _, _, _, _, _, _, _, _, M_stop hg ht (lrun_end (bl := bl) hg ht hroom 0 s hs h1) hs h n, h⟩
  | m + 1, fuel, s, may, least, ic, li, no, ld, st, co, ca, lk, h1, h2, hs, h => by
    obtain ⟨n, rfl⟩ : ∃ n, fuel = n + 1 := ⟨fuel - 1, by omega⟩
    rw [lrun]
    by_cases c : sCa s = 0 ∧ sPl s ≠ t
    · rw [if_pos c]
      obtain ⟨may', least', ic', li', no', ld', st', co', ca', lk', r1, r2⟩ := M_round (bl := bl) (may := may) (least := least) hg hw ht c.2 c.1 hroom hs h n
      rw [r2]
      exact M_run_b hg hw ht hroom m n _ _ _ _ _ _ _ _ _ _ _ (by rw [lstep_lk hg ht c.2]; omega) (by omega) (lstep_inv hg ht c.2 c.1 hs) r1
    · rw [if_neg c]
      exact ⟨_, _, _, _, _, _, _, _, _, _, M_stop hg ht c hs h n, h⟩
theorem M_ini_b {w may least li no : Nat → Int32} {x1 x2 x3 x4 ld st co ca lk : Int32} : ∀ (m i fuel : Nat) (ic : Nat → Int32), i + m = 18 → m < fuel → (∀ j, j < i → ic j = 0) → ∃ ic' : Nat → Int32, f_X6_runLetter_b3 fuel x1 x2 x3 x4 (nI i) w may least ic li no ld st co ca lk = f_X6_runLetter_b56 1000 x2 x3 x4 w may least ic' li (upd no 0 x1) 0 0 0 0 0 ∧ ∀ j, j < 18 → ic' j = 0
  | 0, i, fuel, ic, h1, h2, h => by
    obtain ⟨n, rfl⟩ : ∃ n, fuel = n + 1 := ⟨fuel - 1, by omega⟩
    rw [f_X6_runLetter_b3, l18, t_le (by omega) (by omega), if_pos (by omega)]
    exact ⟨ic, rfl, fun j hj => h j (by omega)⟩
  | m + 1, i, fuel, ic, h1, h2, h => by
    obtain ⟨n, rfl⟩ : ∃ n, fuel = n + 1 := ⟨fuel - 1, by omega⟩
    rw [f_X6_runLetter_b3, l18, t_le (by omega) (by omega), if_neg (by omega), t_inb (by omega), if_pos (by omega), n_cl (by omega), nI_1]
    exact M_ini_b m (i + 1) n _ (by omega) (by omega) (fun j hj => by
      rw [upd_at]
      by_cases e : j = i
      · rw [if_pos e]
      · rw [if_neg e]; exact h j (by omega))
/-- Model.runLetter -/
theorem M_run {g : AN} {w : Nat → Int32} {bl : Bool} {room x t : Nat} (hg : gLinks g) (hw : RM w g) (hx : x < gN g) (ht : t < gN g) (hroom : room ≤ 18) (may least ic li no : Nat → Int32) (ld st co ca lk : Int32) :
    ∃ (may' least' ic' li' no' : Nat → Int32) (ld' st' co' ca' lk' : Int32), f_X6_runLetter (nI x) (nI t) (b01 bl) (nI room) w may least ic li no ld st co ca lk = some (may', least', ic', li', no', ld', st', co', ca', lk') ∧ LM (lend g bl room x t) ic' li' no' ld' st' co' ca' lk' := by
  obtain ⟨ic', q1, q2⟩ := M_ini_b (w := w) (may := may) (least := least) (li := li) (no := no) (x1 := nI x) (x2 := nI t) (x3 := b01 bl) (x4 := nI room) (ld := ld) (st := st) (co := co) (ca := ca) (lk := lk) 18 0 1000 ic (by omega) (by omega) (fun j hj => by omega)
  unfold f_X6_runLetter
  rw [l0, q1]
  refine M_run_b hg hw ht hroom 59 1000 (lini x (fun _ => 0) (fun _ => 0)) _ _ _ _ _ _ _ _ _ _ rfl (by omega) (lini_inv hx _ _) ⟨fun i hi => by rw [q2 i hi]; rfl, fun j hj => absurd hj (Nat.not_lt_zero _), fun j hj => ?_, rfl, rfl, rfl, rfl, rfl⟩
  have : j = 0 := Nat.le_zero.mp hj
  subst this
  rfl
/-! a letter that arrives has a true way -/
theorem oe_sym {g : AN} {i u v : Nat} (e : oe g i u = some v) : (gLo g i = u ∧ gHi g i = v) ∨ (gHi g i = u ∧ gLo g i = v) := by
  unfold oe at e
  by_cases h1 : gLo g i = u
  · rw [if_pos h1] at e; cases e; exact Or.inl ⟨h1, rfl⟩
  · rw [if_neg h1] at e
    by_cases h2 : gHi g i = u
    · rw [if_pos h2] at e; cases e; exact Or.inr ⟨h2, rfl⟩
    · rw [if_neg h2] at e; cases e
theorem dd_back {g : AN} (hg : gLinks g) {use : Nat → Bool} {t i u v : Nat} (ht : t < gN g) (hi : i < gK g) (hu : use i = true) (ho : oe g i u = some v) (hv : DD g use t v < 1000000) : DD g use t u < 1000000 := by
  obtain ⟨f1, -, f3, -⟩ := dd_spec hg use ht
  have a := f1 i hi hu
  have b := f3 v
  have c := f3 u
  have h9 := (hg.2.2 i hi).2.2
  rcases oe_sym ho with ⟨h1, h2⟩ | ⟨h1, h2⟩
  · rw [h1, h2] at a; omega
  · rw [h1, h2] at a; omega
theorem dd_zero {g : AN} (hg : gLinks g) {use : Nat → Bool} {t : Nat} (ht : t < gN g) : DD g use t t = 0 := (dd_spec hg use ht).2.1.1
theorem lrun_true {g : AN} (hg : gLinks g) {bl : Bool} {room t : Nat} (ht : t < gN g) : ∀ (m : Nat) (s : LSt), sCa (lrun g bl room t m s) = 0 → sPl (lrun g bl room t m s) = t → DD g (gAl g) t (sPl s) < 1000000
  | 0, s, h1, h2 => by
    have h3 : sPl s = t := h2
    rw [h3, dd_zero hg ht]
    omega
  | m + 1, s, h1, h2 => by
    rw [lrun] at h1 h2
    by_cases c : sCa s = 0 ∧ sPl s ≠ t
    · rw [if_pos c] at h1 h2
      have ih := lrun_true hg ht m _ h1 h2
      rcases lstep_cases (bl := bl) (room := room) hg ht c.2 with ⟨-, e⟩ | ⟨l, v, -, -, hl, -, ho, -, hh⟩
      · rw [e] at ih; exact ih
      · rcases hh with ⟨-, -, e⟩ | ⟨ha, -, e⟩ | ⟨-, -, -, e⟩ | ⟨-, -, -, -, e⟩
        · rw [e] at ih; exact ih
        · rw [e] at ih; exact dd_back hg ht hl ha ho ih
        · rw [e] at ih; exact ih
        · rw [e] at ih; exact ih
    · rw [if_neg c] at h2
      rw [h2, dd_zero hg ht]
      omega
theorem lend_true {g : AN} (hg : gLinks g) {bl : Bool} {room x t : Nat} (hx : x < gN g) (ht : t < gN g) (hroom : room ≤ 18) (h : sCa (lend g bl room x t) = 0) : DD g (gAl g) t x < 1000000 := by
  have he := lrun_end (bl := bl) hg ht hroom 59 (lini x (fun _ => 0) (fun _ => 0)) (lini_inv hx _ _) rfl
  have hp : sPl (lend g bl room x t) = t := Classical.byContradiction fun q => he ⟨h, q⟩
  exact lrun_true hg ht 59 _ h hp
/-! rooms: a smaller room ends a letter too early, and that is all -/
theorem lstep_ld {g : AN} (hg : gLinks g) {bl : Bool} {room t : Nat} {s : LSt} (ht : t < gN g) (hp : sPl s ≠ t) : sLd s ≤ sLd (lstep g bl room t s) := by
  rcases lstep_cases (bl := bl) (room := room) hg ht hp with ⟨-, e⟩ | ⟨l, v, -, -, -, -, -, -, hh⟩
  · rw [e]; exact Nat.le_refl _
  · rcases hh with ⟨-, -, e⟩ | ⟨-, h4, e⟩ | ⟨-, -, -, e⟩ | ⟨-, -, h5, hcl, e⟩ <;> rw [e]
    · exact Nat.le_refl _
    · exact Nat.le_refl _
    · exact Nat.le_refl _
    · exact Nat.le_succ _
theorem lrun_ld {g : AN} (hg : gLinks g) {bl : Bool} {room t : Nat} (ht : t < gN g) : ∀ (m : Nat) (s : LSt), sLd s ≤ sLd (lrun g bl room t m s)
  | 0, s => Nat.le_refl _
  | m + 1, s => by
    rw [lrun]
    by_cases c : sCa s = 0 ∧ sPl s ≠ t
    · rw [if_pos c]; exact Nat.le_trans (lstep_ld hg ht c.2) (lrun_ld hg ht m _)
    · rw [if_neg c]; exact Nat.le_refl _
theorem lrun_lost {g : AN} {bl : Bool} {room t : Nat} {s : LSt} (h : sCa s ≠ 0) : ∀ m : Nat, lrun g bl room t m s = s
  | 0 => rfl
  | m + 1 => by rw [lrun, if_neg (fun q => h q.1)]
/-- with two rooms that both hold the list of an arriving letter, it is the same letter -/
theorem lrun_room {g : AN} (hg : gLinks g) {bl : Bool} {r q t : Nat} (ht : t < gN g) : ∀ (m : Nat) (s : LSt), sCa (lrun g bl r t m s) = 0 → sLd (lrun g bl r t m s) ≤ q → lrun g bl q t m s = lrun g bl r t m s
  | 0, s, _, _ => rfl
  | m + 1, s, h1, h2 => by
    rw [lrun] at h1 h2 ⊢
    rw [lrun]
    by_cases c : sCa s = 0 ∧ sPl s ≠ t
    · rw [if_pos c] at h1 h2 ⊢
      rw [if_pos c]
      have hd := lrun_ld (bl := bl) (room := r) hg ht m (lstep g bl r t s)
      have key : lstep g bl q t s = lstep g bl r t s := by
        rcases lstep_cases (bl := bl) (room := r) hg ht c.2 with ⟨d, e⟩ | ⟨l, v, d, hf, hl, -, ho, -, hh⟩
        · rw [e]
          unfold lstep
          rw [if_neg (by omega)]
        · rcases hh with ⟨ha, h4, e⟩ | ⟨ha, h4, e⟩ | ⟨ha, -, h5, e⟩ | ⟨ha, -, h5, -, e⟩
          · rw [e]; unfold lstep; rw [if_pos d, hf]; show (if gAl g l = true then (if 40 ≤ sSt s then sLost s 3 else _) else _) = _; rw [if_pos ha, if_pos h4]
          · rw [e]; unfold lstep; rw [if_pos d, hf]; show (if gAl g l = true then (if 40 ≤ sSt s then sLost s 3 else sGo g s l ((oe g l (sPl s)).getD 0)) else _) = _; rw [if_pos ha, if_neg (by omega), ho]; rfl
          · exfalso
            rw [e, lrun_lost (by show (2 : Nat) ≠ 0; omega)] at h1
            exact absurd h1 (by show ¬ (2 : Nat) = 0; omega)
          · rw [e] at hd h2
            have hd2 : sLd s + 1 ≤ sLd (lrun g bl r t m (sAdd s l)) := hd
            rw [e]; unfold lstep; rw [if_pos d, hf]; show (if gAl g l = true then _ else (if q ≤ sLd s then sLost s 2 else sAdd s l)) = _; rw [if_neg (by rw [ha]; decide), if_neg (by omega)]
      rw [key]
      exact lrun_room hg ht m _ h1 h2
    · rw [if_neg c]
      rw [if_neg c]
theorem lend_room {g : AN} (hg : gLinks g) {bl : Bool} {r x t : Nat} (hx : x < gN g) (ht : t < gN g) (hr : r ≤ 18) : sCa (lend g bl r x t) = 0 ↔ sCa (lend g bl 18 x t) = 0 ∧ sLd (lend g bl 18 x t) ≤ r := by
  constructor
  · intro h
    have h1 := (lend_inv (bl := bl) (room := r) hg hx ht).2.2.2.2.1
    have e : lend g bl 18 x t = lend g bl r x t := lrun_room hg ht 59 _ h (Nat.le_trans h1 hr)
    rw [e]
    exact ⟨h, h1⟩
  · rintro ⟨h1, h2⟩
    have e : lend g bl r x t = lend g bl 18 x t := lrun_room hg ht 59 _ h1 h2
    rw [e]
    exact h1
