/-! the reference's survey -/
theorem c3 : Int32.toNatClampNeg (3 : Int32) = 3 := rfl
theorem c4 : Int32.toNatClampNeg (4 : Int32) = 4 := rfl
theorem c5 : Int32.toNatClampNeg (5 : Int32) = 5 := rfl
theorem c6 : Int32.toNatClampNeg (6 : Int32) = 6 := rfl
theorem c7 : Int32.toNatClampNeg (7 : Int32) = 7 := rfl
theorem inb8_0 : inb (0 : Int32) 8 = true := by decide
theorem inb8_2 : inb (2 : Int32) 8 = true := by decide
theorem inb8_5 : inb (5 : Int32) 8 = true := by decide
theorem inb8_6 : inb (6 : Int32) 8 = true := by decide
def SM (q : Nat → Int32) (a : SV) : Prop := q 0 = nI a.1 ∧ q 1 = nI a.2.1 ∧ q 2 = nI a.2.2.1 ∧ q 3 = nI a.2.2.2.1 ∧ q 4 = nI a.2.2.2.2.1 ∧ q 5 = nI a.2.2.2.2.2.1 ∧ q 6 = nI a.2.2.2.2.2.2.2.1 ∧ q 7 = nI a.2.2.2.2.2.2.2.2
theorem M_note5 {q : Nat → Int32} {x v : Nat} (h : q 5 = nI x) (hx : x < 2147483648) (hv : v < 2147483648) : f_X6_note 5 (nI v) q = some (upd q 5 (nI (max x v))) := by
  unfold f_X6_note
  rw [if_pos inb8_5, c5, h, t_le hv hx]
  by_cases c : v ≤ x
  · rw [if_pos c, Nat.max_eq_left c]
  · rw [if_neg c, Nat.max_eq_right (by omega)]
theorem M_note6 {q : Nat → Int32} {x v : Nat} (h : q 6 = nI x) (hx : x < 2147483648) (hv : v < 2147483648) : f_X6_note 6 (nI v) q = some (upd q 6 (nI (max x v))) := by
  unfold f_X6_note
  rw [if_pos inb8_6, c6, h, t_le hv hx]
  by_cases c : v ≤ x
  · rw [if_pos c, Nat.max_eq_left c]
  · rw [if_neg c, Nat.max_eq_right (by omega)]
/-- the end of layPair: j joined more, l lost in vain more -/
theorem M_pair_b90 {E : LSt} {a : SV} {w may least ic li no q : Nat → Int32} {d j l : Nat} {x5 : Int32} (hl : sLd E ≤ 18) (hst : sSt E ≤ 40) (hco : sCo E ≤ 360) (hca : sCa E ≤ 3) (hd : d ≤ 1000000) (hb : SB a) (hq : SM q a) (hx : sCa E = 0 → x5 = nI d) :
    ∃ q' : Nat → Int32, f_X6_layPair_b90 x5 (nI l) ((upd q 0 (q 0 + nI j)) 2) 2 w may least ic li no (nI (sLd E)) (nI (sSt E)) (nI (sCo E)) (nI (sCa E)) (nI (sLk E)) (upd q 0 (q 0 + nI j)) = some (may, least, ic, li, no, nI (sLd E), nI (sSt E), nI (sCo E), nI (sCa E), nI (sLk E), q') ∧ SM q' (a.1 + j, a.2.1 + (if sCa E = 0 then 1 else 0), a.2.2.1 + l, a.2.2.2.1 + (if sCa E = 0 then sCo E else 0), a.2.2.2.2.1 + (if sCa E = 0 then d else 0), max a.2.2.2.2.2.1 (sLd E), (if sCa E = 0 then max a.2.2.2.2.2.2.1 (sLd E) else a.2.2.2.2.2.2.1), max a.2.2.2.2.2.2.2.1 (sSt E), a.2.2.2.2.2.2.2.2 + (if sCa E = 0 ∧ d < sCo E then 1 else 0)) := by
  obtain ⟨q0, q1, q2, q3, q4, q5, q6, q7⟩ := hq
  obtain ⟨b1, b2, b3⟩ := hb
  unfold f_X6_layPair_b90
  rw [if_pos inb8_2, c2]
  have s5 : upd (upd q 0 (q 0 + nI j)) 2 (upd q 0 (q 0 + nI j) 2 + nI l) 5 = nI a.2.2.2.2.2.1 := q5
  rw [M_note5 s5 (by omega) (by omega), Option.bind_some]
  have s6 : upd (upd (upd q 0 (q 0 + nI j)) 2 (upd q 0 (q 0 + nI j) 2 + nI l)) 5 (nI (max a.2.2.2.2.2.1 (sLd E))) 6 = nI a.2.2.2.2.2.2.2.1 := q6
  rw [M_note6 s6 (by omega) (by omega), Option.bind_some, l0, t_eq (by omega) (by omega)]
  generalize hG : upd (upd (upd (upd q 0 (q 0 + nI j)) 2 (upd q 0 (q 0 + nI j) 2 + nI l)) 5 (nI (max a.2.2.2.2.2.1 (sLd E)))) 6 (nI (max a.2.2.2.2.2.2.2.1 (sSt E))) = G
  have g0 : G 0 = nI (a.1 + j) := by rw [← hG]; show q 0 + nI j = _; rw [q0, n_add]
  have g1 : G 1 = nI a.2.1 := by rw [← hG]; exact q1
  have g2 : G 2 = nI (a.2.2.1 + l) := by rw [← hG]; show q 2 + nI l = _; rw [q2, n_add]
  have g3 : G 3 = nI a.2.2.2.1 := by rw [← hG]; exact q3
  have g4 : G 4 = nI a.2.2.2.2.1 := by rw [← hG]; exact q4
  have g5 : G 5 = nI (max a.2.2.2.2.2.1 (sLd E)) := by rw [← hG]; rfl
  have g6 : G 6 = nI (max a.2.2.2.2.2.2.2.1 (sSt E)) := by rw [← hG]; rfl
  have g7 : G 7 = nI a.2.2.2.2.2.2.2.2 := by rw [← hG]; exact q7
  by_cases c : sCa E = 0
  · rw [if_pos c, hx c, t_le (by omega) (by omega), c1, c3, c4, c7]
    have u3 : upd G 1 (G 1 + 1) 3 = nI a.2.2.2.1 := g3
    rw [u3]
    have u4 : upd (upd G 1 (G 1 + 1)) 3 (nI a.2.2.2.1 + nI (sCo E)) 4 = nI a.2.2.2.2.1 := g4
    rw [u4]
    have u7 : upd (upd (upd G 1 (G 1 + 1)) 3 (nI a.2.2.2.1 + nI (sCo E))) 4 (nI a.2.2.2.2.1 + nI d) 7 = nI a.2.2.2.2.2.2.2.2 := g7
    rw [u7]
    have fin : ∀ z : Nat, SM (upd (upd (upd (upd G 1 (G 1 + 1)) 3 (nI a.2.2.2.1 + nI (sCo E))) 4 (nI a.2.2.2.2.1 + nI d)) 7 (nI a.2.2.2.2.2.2.2.2 + nI z)) (a.1 + j, a.2.1 + 1, a.2.2.1 + l, a.2.2.2.1 + sCo E, a.2.2.2.2.1 + d, max a.2.2.2.2.2.1 (sLd E), max a.2.2.2.2.2.2.1 (sLd E), max a.2.2.2.2.2.2.2.1 (sSt E), a.2.2.2.2.2.2.2.2 + z) := by
      intro z
      refine ⟨g0, ?_, g2, ?_, ?_, g5, g6, ?_⟩
      · show G 1 + 1 = _; rw [g1, nI_1]
      · show nI a.2.2.2.1 + nI (sCo E) = _; rw [n_add]
      · show nI a.2.2.2.2.1 + nI d = _; rw [n_add]
      · show nI a.2.2.2.2.2.2.2.2 + nI z = _; rw [n_add]
    by_cases e : sCo E ≤ d
    · rw [if_pos e, if_pos c, if_pos c, if_pos c, if_pos c, if_neg (show ¬ (sCa E = 0 ∧ d < sCo E) from fun q => by omega)]
      exact ⟨_, rfl, fin 0⟩
    · rw [if_neg e, if_pos c, if_pos c, if_pos c, if_pos c, if_pos (show sCa E = 0 ∧ d < sCo E from ⟨c, by omega⟩)]
      exact ⟨_, rfl, fin 1⟩
  · rw [if_neg c, if_neg c, if_neg c, if_neg c, if_neg c, if_neg (show ¬ (sCa E = 0 ∧ d < sCo E) from fun q => c q.1)]
    exact ⟨_, rfl, g0, g1, g2, g3, g4, g5, g6, g7⟩
/-- Model.layPair -/
theorem M_pair {g : AN} {w : Nat → Int32} {bl : Bool} {room s t : Nat} (hg : gLinks g) (hw : RM w g) (hs : s < gN g) (ht : t < gN g) (hroom : room ≤ 18) {a : SV} (hb : SB a) {q : Nat → Int32} (hq : SM q a) (may least ic li no : Nat → Int32) (ld st co ca lk : Int32) :
    ∃ (may' least' ic' li' no' : Nat → Int32) (ld' st' co' ca' lk' : Int32) (q' : Nat → Int32), f_X6_layPair (nI s) (nI t) (b01 bl) (nI room) w may least ic li no ld st co ca lk q = some (may', least', ic', li', no', ld', st', co', ca', lk', q') ∧ SM q' (svP g bl room s t a) := by
  have h9 := hg.1
  obtain ⟨i1, i2, i3, i4, i5, -⟩ := lend_inv (bl := bl) (room := room) hg hs ht
  obtain ⟨may1, least1, n1, n2, n3⟩ := M_true (may := may) (least := least) hg hw ht
  obtain ⟨may2, least2, ic2, li2, no2, ld2, st2, co2, ca2, lk2, r1, r2⟩ := M_run (bl := bl) hg hw hs ht hroom may1 least1 ic li no ld st co ca lk
  obtain ⟨-, -, -, e4, e5, e6, e7, e8⟩ := r2
  subst e4 e5 e6 e7 e8
  have hD := DD_le (g := g) (use := gAl g) (t := t) (x := s)
  have tr := lend_true (bl := bl) (room := room) hg hs ht hroom
  unfold f_X6_layPair
  rw [n1, Option.bind_some]
  dsimp only
  rw [t_inb (by omega), if_pos (show s < 9 by omega), n_cl (by omega), n3 s (by omega), lfar, t_eq (by omega) (by omega), l16, pk_div (by omega) (by omega) (by omega)]
  unfold f_X6_layPair_b32
  rw [r1, Option.bind_some, Option.bind_some]
  unfold svP
  generalize lend g bl room s t = E at *
  dsimp only
  unfold f_X6_layPair_b62
  rw [if_pos inb8_0, c2, c0]
  by_cases d : DD g (gAl g) t s = 1000000
  · have nd : ¬ DD g (gAl g) t s < 1000000 := by omega
    have nc : sCa E ≠ 0 := fun q => nd (tr q)
    rw [if_pos d, if_pos rfl, if_pos rfl, if_neg nd, if_neg (show ¬ (DD g (gAl g) t s < 1000000 ∧ sCa E ≠ 0) from fun q => nd q.1)]
    obtain ⟨q', k1, k2⟩ := M_pair_b90 (E := E) (w := w) (may := may2) (least := least2) (ic := ic2) (li := li2) (no := no2) (d := DD g (gAl g) t s / 16) (j := 0) (l := 0) (x5 := -9) (by omega) (by omega) (by omega) (by omega) (by omega) hb hq (fun c => absurd c nc)
    exact ⟨_, _, _, _, _, _, _, _, _, _, q', k1, k2⟩
  · have yd : DD g (gAl g) t s < 1000000 := by omega
    rw [if_neg d, if_neg (show ¬ nI (DD g (gAl g) t s / 16) = (-9 : Int32) from n_ne (by omega) (by decide)), if_neg (show ¬ nI (DD g (gAl g) t s / 16) = (-9 : Int32) from n_ne (by omega) (by decide)), if_pos yd]
    rw [show (if nI (sCa E) = (0 : Int32) then _ else _) = _ from t_eq (a := sCa E) (b := 0) (by omega) (by omega)]
    by_cases c : sCa E = 0
    · rw [if_pos c, if_neg (show ¬ (DD g (gAl g) t s < 1000000 ∧ sCa E ≠ 0) from fun q => q.2 c)]
      obtain ⟨q', k1, k2⟩ := M_pair_b90 (E := E) (w := w) (may := may2) (least := least2) (ic := ic2) (li := li2) (no := no2) (d := DD g (gAl g) t s / 16) (j := 1) (l := 0) (x5 := nI (DD g (gAl g) t s / 16)) (by omega) (by omega) (by omega) (by omega) (by omega) hb hq (fun _ => rfl)
      exact ⟨_, _, _, _, _, _, _, _, _, _, q', k1, k2⟩
    · rw [if_neg c, if_pos (show DD g (gAl g) t s < 1000000 ∧ sCa E ≠ 0 from ⟨yd, c⟩)]
      obtain ⟨q', k1, k2⟩ := M_pair_b90 (E := E) (w := w) (may := may2) (least := least2) (ic := ic2) (li := li2) (no := no2) (d := DD g (gAl g) t s / 16) (j := 1) (l := 1) (x5 := nI (DD g (gAl g) t s / 16)) (by omega) (by omega) (by omega) (by omega) (by omega) hb hq (fun _ => rfl)
      exact ⟨_, _, _, _, _, _, _, _, _, _, q', k1, k2⟩
theorem M_layT {g : AN} {w : Nat → Int32} {bl : Bool} {room s : Nat} (hg : gLinks g) (hw : RM w g) (hs : s < gN g) (hroom : room ≤ 18) (K : Int32 → Int32 → Int32 → (Nat → Int32) → (Nat → Int32) → (Nat → Int32) → (Nat → Int32) → (Nat → Int32) → (Nat → Int32) → Int32 → Int32 → Int32 → Int32 → Int32 → (Nat → Int32) → Option ((Nat → Int32) × (Nat → Int32) × (Nat → Int32) × (Nat → Int32) × (Nat → Int32) × Int32 × Int32 × Int32 × Int32 × Int32 × (Nat → Int32))) : ∀ (m t fuel : Nat) (a : SV) (may least ic li no : Nat → Int32) (ld st co ca lk : Int32) (q : Nat → Int32), t + m = gN g → m < fuel → SB a → SM q a →
    ∃ (may' least' ic' li' no' : Nat → Int32) (ld' st' co' ca' lk' : Int32) (q' : Nat → Int32), f_X6_layAll_b36 K fuel (b01 bl) (nI room) (nI s) (nI t) w may least ic li no ld st co ca lk q = K (b01 bl) (nI room) (nI s + 1) w may' least' ic' li' no' ld' st' co' ca' lk' q' ∧ SM q' (svT g bl room s t m a)
  | 0, t, fuel, a, may, least, ic, li, no, ld, st, co, ca, lk, q, h1, h2, h, hq => by
    obtain ⟨n, rfl⟩ : ∃ n, fuel = n + 1 := ⟨fuel - 1, by omega⟩
    have h9 := hg.1
    rw [f_X6_layAll_b36, c0, hw.1, t_le (by omega) (by omega), if_pos (by omega)]
    exact ⟨_, _, _, _, _, _, _, _, _, _, _, rfl, hq⟩
  | m + 1, t, fuel, a, may, least, ic, li, no, ld, st, co, ca, lk, q, h1, h2, h, hq => by
    obtain ⟨n, rfl⟩ : ∃ n, fuel = n + 1 := ⟨fuel - 1, by omega⟩
    have h9 := hg.1
    rw [f_X6_layAll_b36, c0, hw.1, t_le (by omega) (by omega), if_neg (by omega), t_eq (by omega) (by omega), svT, nI_1]
    by_cases c : s = t
    · rw [if_pos c, if_pos c]
      exact M_layT hg hw hs hroom K m (t + 1) n a _ _ _ _ _ _ _ _ _ _ _ (by omega) (by omega) h hq
    · rw [if_neg c, if_neg c]
      obtain ⟨may1, least1, ic1, li1, no1, ld1, st1, co1, ca1, lk1, q1, k1, k2⟩ := M_pair (bl := bl) hg hw hs (show t < gN g by omega) hroom h hq may least ic li no ld st co ca lk
      rw [k1, Option.bind_some]
      exact M_layT hg hw hs hroom K m (t + 1) n _ _ _ _ _ _ _ _ _ _ _ _ (by omega) (by omega) (svP_b hg hs (by omega) hroom h) k2
theorem M_layS {g : AN} {w : Nat → Int32} {bl : Bool} {room : Nat} (hg : gLinks g) (hw : RM w g) (hroom : room ≤ 18) : ∀ (m s fuel : Nat) (a : SV) (may least ic li no : Nat → Int32) (ld st co ca lk : Int32) (q : Nat → Int32), s + m = gN g → m < fuel → SB a → SM q a →
    ∃ (may' least' ic' li' no' : Nat → Int32) (ld' st' co' ca' lk' : Int32) (q' : Nat → Int32), f_X6_layAll_b23 fuel (b01 bl) (nI room) (nI s) w may least ic li no ld st co ca lk q = some (may', least', ic', li', no', ld', st', co', ca', lk', q') ∧ SM q' (svS g bl room s m a)
  | 0, s, fuel, a, may, least, ic, li, no, ld, st, co, ca, lk, q, h1, h2, h, hq => by
    obtain ⟨n, rfl⟩ : ∃ n, fuel = n + 1 := ⟨fuel - 1, by omega⟩
    have h9 := hg.1
    rw [f_X6_layAll_b23, c0, hw.1, t_le (by omega) (by omega), if_pos (by omega)]
    exact ⟨_, _, _, _, _, _, _, _, _, _, _, rfl, hq⟩
  | m + 1, s, fuel, a, may, least, ic, li, no, ld, st, co, ca, lk, q, h1, h2, h, hq => by
    obtain ⟨n, rfl⟩ : ∃ n, fuel = n + 1 := ⟨fuel - 1, by omega⟩
    have h9 := hg.1
    rw [f_X6_layAll_b23, c0, hw.1, t_le (by omega) (by omega), if_neg (by omega), svS, l0]
    obtain ⟨may1, least1, ic1, li1, no1, ld1, st1, co1, ca1, lk1, q1, k1, k2⟩ := M_layT (bl := bl) hg hw (show s < gN g by omega) hroom (f_X6_layAll_b23 n) (gN g) 0 1000 a may least ic li no ld st co ca lk q (by omega) (by omega) h hq
    rw [k1, nI_1]
    exact M_layS hg hw hroom m (s + 1) n _ _ _ _ _ _ _ _ _ _ _ _ (by omega) (by omega) (svT_b hg (by omega) hroom _ 0 a (by omega) h) k2
theorem M_lay0 {x1 x2 : Int32} {w may least ic li no : Nat → Int32} {ld st co ca lk : Int32} : ∀ (m i fuel : Nat) (q : Nat → Int32), i + m = 8 → m < fuel → (∀ j, j < i → q j = 0) → ∃ q' : Nat → Int32, f_X6_layAll_b2 fuel x1 x2 (nI i) w may least ic li no ld st co ca lk q = f_X6_layAll_b23 1000 x1 x2 0 w may least ic li no ld st co ca lk q' ∧ ∀ j, j < 8 → q' j = 0
  | 0, i, fuel, q, h1, h2, h => by
    obtain ⟨n, rfl⟩ : ∃ n, fuel = n + 1 := ⟨fuel - 1, by omega⟩
    rw [f_X6_layAll_b2, l8, t_le (by omega) (by omega), if_pos (by omega)]
    exact ⟨q, rfl, fun j hj => h j (by omega)⟩
  | m + 1, i, fuel, q, h1, h2, h => by
    obtain ⟨n, rfl⟩ : ∃ n, fuel = n + 1 := ⟨fuel - 1, by omega⟩
    rw [f_X6_layAll_b2, l8, t_le (by omega) (by omega), if_neg (by omega), t_inb (by omega), if_pos (by omega), n_cl (by omega), nI_1]
    exact M_lay0 m (i + 1) n _ (by omega) (by omega) (fun j hj => by
      rw [upd_at]
      by_cases e : j = i
      · rw [if_pos e]
      · rw [if_neg e]; exact h j (by omega))
/-- Model.layAll -/
theorem M_layAll {g : AN} {w : Nat → Int32} {bl : Bool} {room : Nat} (hg : gLinks g) (hw : RM w g) (hroom : room ≤ 18) (may least ic li no : Nat → Int32) (ld st co ca lk : Int32) (q : Nat → Int32) :
    ∃ (may' least' ic' li' no' : Nat → Int32) (ld' st' co' ca' lk' : Int32) (q' : Nat → Int32), f_X6_layAll (b01 bl) (nI room) w may least ic li no ld st co ca lk q = some (may', least', ic', li', no', ld', st', co', ca', lk', q') ∧ SM q' (sv g bl room) := by
  obtain ⟨q1, k1, k2⟩ := M_lay0 (x1 := b01 bl) (x2 := nI room) (w := w) (may := may) (least := least) (ic := ic) (li := li) (no := no) (ld := ld) (st := st) (co := co) (ca := ca) (lk := lk) 8 0 1000 q (by omega) (by omega) (fun j hj => by omega)
  unfold f_X6_layAll
  rw [show (0 : Int32) = nI 0 from rfl, k1]
  exact M_layS hg hw hroom (gN g) 0 1000 (0, 0, 0, 0, 0, 0, 0, 0, 0) _ _ _ _ _ _ _ _ _ _ _ (by omega) (by have := hg.1; omega) ⟨by decide, by decide, by decide⟩ ⟨k2 0 (by omega), k2 1 (by omega), k2 2 (by omega), k2 3 (by omega), k2 4 (by omega), k2 5 (by omega), k2 6 (by omega), k2 7 (by omega)⟩
