/-! the survey, as numbers -/
abbrev SV : Type := Nat × Nat × Nat × Nat × Nat × Nat × Nat × Nat × Nat
def svP (g : AN) (bl : Bool) (room s t : Nat) (a : SV) : SV :=
  (a.1 + (if DD g (gAl g) t s < 1000000 then 1 else 0),
   a.2.1 + (if sCa (lend g bl room s t) = 0 then 1 else 0),
   a.2.2.1 + (if DD g (gAl g) t s < 1000000 ∧ sCa (lend g bl room s t) ≠ 0 then 1 else 0),
   a.2.2.2.1 + (if sCa (lend g bl room s t) = 0 then sCo (lend g bl room s t) else 0),
   a.2.2.2.2.1 + (if sCa (lend g bl room s t) = 0 then DD g (gAl g) t s / 16 else 0),
   max a.2.2.2.2.2.1 (sLd (lend g bl room s t)),
   (if sCa (lend g bl room s t) = 0 then max a.2.2.2.2.2.2.1 (sLd (lend g bl room s t)) else a.2.2.2.2.2.2.1),
   max a.2.2.2.2.2.2.2.1 (sSt (lend g bl room s t)),
   a.2.2.2.2.2.2.2.2 + (if sCa (lend g bl room s t) = 0 ∧ DD g (gAl g) t s / 16 < sCo (lend g bl room s t) then 1 else 0))
def svT (g : AN) (bl : Bool) (room s : Nat) : Nat → Nat → SV → SV
  | _, 0, a => a
  | t, m + 1, a => svT g bl room s (t + 1) m (if s = t then a else svP g bl room s t a)
def svS (g : AN) (bl : Bool) (room : Nat) : Nat → Nat → SV → SV
  | _, 0, a => a
  | s, m + 1, a => svS g bl room (s + 1) m (svT g bl room s 0 (gN g) a)
def sv (g : AN) (bl : Bool) (room : Nat) : SV := svS g bl room 0 (gN g) (0, 0, 0, 0, 0, 0, 0, 0, 0)
def SB (a : SV) : Prop := a.2.2.2.2.2.1 ≤ 18 ∧ a.2.2.2.2.2.2.1 ≤ 18 ∧ a.2.2.2.2.2.2.2.1 ≤ 40
theorem svP_b {g : AN} (hg : gLinks g) {bl : Bool} {room s t : Nat} (hs : s < gN g) (ht : t < gN g) (hroom : room ≤ 18) {a : SV} (h : SB a) : SB (svP g bl room s t a) := by
  obtain ⟨h1, h2, h3⟩ := h
  obtain ⟨i1, -, -, -, i5, -⟩ := lend_inv (bl := bl) (room := room) hg hs ht
  refine ⟨?_, ?_, ?_⟩
  · show max a.2.2.2.2.2.1 (sLd (lend g bl room s t)) ≤ 18; omega
  · show (if sCa (lend g bl room s t) = 0 then max a.2.2.2.2.2.2.1 (sLd (lend g bl room s t)) else a.2.2.2.2.2.2.1) ≤ 18
    by_cases c : sCa (lend g bl room s t) = 0
    · rw [if_pos c]; omega
    · rw [if_neg c]; omega
  · show max a.2.2.2.2.2.2.2.1 (sSt (lend g bl room s t)) ≤ 40; omega
/-- Survey.takePair -/
theorem C_pair {g : AN} {A I : Int32} {low high len : Nat → Int32} {bl : Bool} {room s t : Nat} (hg : gLinks g) (hr : CL low high len g) (hA : ∀ i, i < gK g → bt A i = gAl g i) (hI : ∀ i, i < gK g → bt I i = gMp g i) (hs : s < gN g) (ht : t < gN g) (hroom : room ≤ 18) {a : SV} (ha : SB a) (st co ca pl lk li ld : Int32) (vi ml mh far : Nat → Int32) (yu : Int32) :
    ∃ (st' co' ca' pl' lk' li' ld' : Int32) (vi' ml' mh' far' : Nat → Int32) (yu' : Int32), f_X2_takePair (nI s) (nI t) (b01 bl) (nI room) (nI a.1) (nI a.2.1) (nI a.2.2.1) (nI a.2.2.2.1) (nI a.2.2.2.2.1) (nI a.2.2.2.2.2.1) (nI a.2.2.2.2.2.2.1) (nI a.2.2.2.2.2.2.2.1) (nI a.2.2.2.2.2.2.2.2) st co ca pl lk li ld vi ml mh far yu (nI (gN g)) (nI (gK g)) A I low high len = some (nI (svP g bl room s t a).1, nI (svP g bl room s t a).2.1, nI (svP g bl room s t a).2.2.1, nI (svP g bl room s t a).2.2.2.1, nI (svP g bl room s t a).2.2.2.2.1, nI (svP g bl room s t a).2.2.2.2.2.1, nI (svP g bl room s t a).2.2.2.2.2.2.1, nI (svP g bl room s t a).2.2.2.2.2.2.2.1, nI (svP g bl room s t a).2.2.2.2.2.2.2.2, st', co', ca', pl', lk', li', ld', vi', ml', mh', far', yu') := by
  have h9 := hg.1
  obtain ⟨b1, b2, b3⟩ := ha
  obtain ⟨i1, i2, i3, i4, i5, -⟩ := lend_inv (bl := bl) (room := room) hg hs ht
  obtain ⟨far', m1, m2⟩ := C_meas (U := A) (yu := yu) (far := far) hg hr ht hA
  obtain ⟨st1, co1, ca1, pl1, lk1, li1, ld1, vi1, ml1, mh1, far'', yu'', q1, q2⟩ := C_travel (bl := bl) hg hr hA hI hs ht hroom st co ca pl lk li ld vi ml mh far' A
  obtain ⟨e1, e2, e3, e4, e5, e6, e7, -⟩ := q2
  subst e1 e2 e3 e4 e5 e7
  have hD := DD_le (g := g) (use := gAl g) (t := t) (x := s)
  have hcv := cv_le _ hD
  unfold f_X2_takePair
  rw [m1, Option.bind_some]
  dsimp only
  rw [C_leads (by omega) m2, Option.bind_some, C_length (by omega) m2, Option.bind_some, q1, Option.bind_some]
  dsimp only
  rw [b01_eq0, n_max (by omega) (by omega), n_max (by omega) (by omega)]
  have tr := lend_true (bl := bl) (room := room) hg hs ht hroom
  unfold svP
  generalize lend g bl room s t = E at *
  dsimp only
  have key : ∀ J : Nat, (J = a.1 + if DD g (gAl g) t s < 1000000 then 1 else 0) → ∃ (st' co' ca' pl' lk' li' ld' : Int32) (vi' ml' mh' far' : Nat → Int32) (yu' : Int32), f_X2_takePair_b98 (b01 (decide (DD g (gAl g) t s < 1000000))) (nI (cv (DD g (gAl g) t s) / 16)) (nI J) (nI a.2.1) (nI a.2.2.1) (nI a.2.2.2.1) (nI a.2.2.2.2.1) (nI (max a.2.2.2.2.2.1 (sLd E))) (nI a.2.2.2.2.2.2.1) (nI (max a.2.2.2.2.2.2.2.1 (sSt E))) (nI a.2.2.2.2.2.2.2.2) (nI (sSt E)) (nI (sCo E)) (nI (sCa E)) (nI (sPl E)) (nI (sLk E)) li1 (nI (sLd E)) vi1 ml1 mh1 far'' yu'' (nI (gN g)) (nI (gK g)) A I low high len = some (nI (a.1 + (if DD g (gAl g) t s < 1000000 then 1 else 0)), nI (a.2.1 + (if sCa E = 0 then 1 else 0)), nI (a.2.2.1 + (if DD g (gAl g) t s < 1000000 ∧ sCa E ≠ 0 then 1 else 0)), nI (a.2.2.2.1 + (if sCa E = 0 then sCo E else 0)), nI (a.2.2.2.2.1 + (if sCa E = 0 then DD g (gAl g) t s / 16 else 0)), nI (max a.2.2.2.2.2.1 (sLd E)), nI (if sCa E = 0 then max a.2.2.2.2.2.2.1 (sLd E) else a.2.2.2.2.2.2.1), nI (max a.2.2.2.2.2.2.2.1 (sSt E)), nI (a.2.2.2.2.2.2.2.2 + (if sCa E = 0 ∧ DD g (gAl g) t s / 16 < sCo E then 1 else 0)), st', co', ca', pl', lk', li', ld', vi', ml', mh', far', yu') := by
    intro J hJ
    subst hJ
    unfold f_X2_takePair_b98 f_X0_hasArrived
    rw [l0, t_eq (by omega) (by omega)]
    by_cases c : sCa E = 0
    · have hr1 := tr c
      rw [if_pos c, if_neg (show ¬ (1 : Int32) = nI 0 from ne10), cv_r hr1]
      unfold f_X2_countArrived
      rw [t_le (by omega) (by omega), n_max (by omega) (by omega)]
      by_cases d : sCo E ≤ DD g (gAl g) t s / 16
      · rw [if_pos d]
        dsimp only
        rw [if_pos c, if_pos c, if_pos c, if_pos c, if_neg (show ¬ (DD g (gAl g) t s < 1000000 ∧ sCa E ≠ 0) from fun q => q.2 c), if_neg (show ¬ (sCa E = 0 ∧ DD g (gAl g) t s / 16 < sCo E) from fun q => by omega), nI_1, n_add, n_add]
        exact ⟨_, _, _, _, _, _, _, _, _, _, _, _, rfl⟩
      · rw [if_neg d]
        dsimp only
        rw [if_pos c, if_pos c, if_pos c, if_pos c, if_neg (show ¬ (DD g (gAl g) t s < 1000000 ∧ sCa E ≠ 0) from fun q => q.2 c), if_pos (show (sCa E = 0 ∧ DD g (gAl g) t s / 16 < sCo E) from ⟨c, by omega⟩), nI_1, nI_1, n_add, n_add]
        exact ⟨_, _, _, _, _, _, _, _, _, _, _, _, rfl⟩
    · rw [if_neg c, if_pos (show nI 0 = nI 0 from rfl), ← l0, b01_eq0, if_neg c, if_neg c, if_neg c, if_neg c, if_neg (show ¬ (sCa E = 0 ∧ DD g (gAl g) t s / 16 < sCo E) from fun q => c q.1)]
      by_cases d : DD g (gAl g) t s < 1000000
      · rw [if_pos (show decide (DD g (gAl g) t s < 1000000) = true by simpa using d), if_pos (show DD g (gAl g) t s < 1000000 ∧ sCa E ≠ 0 from ⟨d, c⟩), nI_1]
        exact ⟨_, _, _, _, _, _, _, _, _, _, _, _, rfl⟩
      · rw [if_neg (show ¬ decide (DD g (gAl g) t s < 1000000) = true by simpa using d), if_neg (show ¬ (DD g (gAl g) t s < 1000000 ∧ sCa E ≠ 0) from fun q => d q.1)]
        exact ⟨_, _, _, _, _, _, _, _, _, _, _, _, rfl⟩
  by_cases d : DD g (gAl g) t s < 1000000
  · rw [if_pos (show decide (DD g (gAl g) t s < 1000000) = true by simpa using d), nI_1]
    exact key (a.1 + 1) (by rw [if_pos d])
  · rw [if_neg (show ¬ decide (DD g (gAl g) t s < 1000000) = true by simpa using d)]
    exact key a.1 (by rw [if_neg d]; rfl)
theorem svT_b {g : AN} (hg : gLinks g) {bl : Bool} {room s : Nat} (hs : s < gN g) (hroom : room ≤ 18) : ∀ (m t : Nat) (a : SV), t + m = gN g → SB a → SB (svT g bl room s t m a)
  | 0, t, a, _, h => h
  | m + 1, t, a, h1, h => by
    rw [svT]
    refine svT_b hg hs hroom m (t + 1) _ (by omega) ?_
    by_cases c : s = t
    · rw [if_pos c]; exact h
    · rw [if_neg c]; exact svP_b hg hs (by omega) hroom h
theorem C_takeT {g : AN} {A I : Int32} {low high len : Nat → Int32} {bl : Bool} {room s : Nat} (hg : gLinks g) (hr : CL low high len g) (hA : ∀ i, i < gK g → bt A i = gAl g i) (hI : ∀ i, i < gK g → bt I i = gMp g i) (hs : s < gN g) (hroom : room ≤ 18) (K : Int32 → Int32 → Int32 → Int32 → Int32 → Int32 → Int32 → Int32 → Int32 → Int32 → Int32 → Int32 → Int32 → Int32 → Int32 → Int32 → Int32 → Int32 → Int32 → (Nat → Int32) → (Nat → Int32) → (Nat → Int32) → (Nat → Int32) → Int32 → Int32 → Int32 → Int32 → Int32 → (Nat → Int32) → (Nat → Int32) → (Nat → Int32) → Option (Int32 × Int32 × Int32 × Int32 × Int32 × Int32 × Int32 × Int32 × Int32 × Int32 × Int32 × Int32 × Int32 × Int32 × Int32 × Int32 × (Nat → Int32) × (Nat → Int32) × (Nat → Int32) × (Nat → Int32) × Int32)) : ∀ (m t fuel : Nat) (a : SV) (st co ca pl lk li ld : Int32) (vi ml mh far : Nat → Int32) (yu : Int32), t + m = gN g → m < fuel → SB a →
    ∃ (st' co' ca' pl' lk' li' ld' : Int32) (vi' ml' mh' far' : Nat → Int32) (yu' : Int32), f_X2_take_b20 K fuel (b01 bl) (nI room) (nI s) (nI t) (nI a.1) (nI a.2.1) (nI a.2.2.1) (nI a.2.2.2.1) (nI a.2.2.2.2.1) (nI a.2.2.2.2.2.1) (nI a.2.2.2.2.2.2.1) (nI a.2.2.2.2.2.2.2.1) (nI a.2.2.2.2.2.2.2.2) st co ca pl lk li ld vi ml mh far yu (nI (gN g)) (nI (gK g)) A I low high len = K (b01 bl) (nI room) (nI s + 1) (nI (svT g bl room s t m a).1) (nI (svT g bl room s t m a).2.1) (nI (svT g bl room s t m a).2.2.1) (nI (svT g bl room s t m a).2.2.2.1) (nI (svT g bl room s t m a).2.2.2.2.1) (nI (svT g bl room s t m a).2.2.2.2.2.1) (nI (svT g bl room s t m a).2.2.2.2.2.2.1) (nI (svT g bl room s t m a).2.2.2.2.2.2.2.1) (nI (svT g bl room s t m a).2.2.2.2.2.2.2.2) st' co' ca' pl' lk' li' ld' vi' ml' mh' far' yu' (nI (gN g)) (nI (gK g)) A I low high len
  | 0, t, fuel, a, st, co, ca, pl, lk, li, ld, vi, ml, mh, far, yu, h1, h2, h => by
    obtain ⟨n, rfl⟩ : ∃ n, fuel = n + 1 := ⟨fuel - 1, by omega⟩
    have h9 := hg.1
    rw [f_X2_take_b20, t_le (by omega) (by omega), if_pos (by omega)]
    exact ⟨_, _, _, _, _, _, _, _, _, _, _, _, rfl⟩
  | m + 1, t, fuel, a, st, co, ca, pl, lk, li, ld, vi, ml, mh, far, yu, h1, h2, h => by
    obtain ⟨n, rfl⟩ : ∃ n, fuel = n + 1 := ⟨fuel - 1, by omega⟩
    have h9 := hg.1
    rw [f_X2_take_b20, t_le (by omega) (by omega), if_neg (by omega), t_eq (by omega) (by omega), svT, nI_1]
    by_cases c : s = t
    · rw [if_pos c, if_pos c]
      exact C_takeT hg hr hA hI hs hroom K m (t + 1) n a _ _ _ _ _ _ _ _ _ _ _ _ (by omega) (by omega) h
    · rw [if_neg c, if_neg c]
      obtain ⟨st1, co1, ca1, pl1, lk1, li1, ld1, vi1, ml1, mh1, far1, yu1, q⟩ := C_pair (bl := bl) hg hr hA hI hs (show t < gN g by omega) hroom h st co ca pl lk li ld vi ml mh far yu
      rw [q, Option.bind_some]
      exact C_takeT hg hr hA hI hs hroom K m (t + 1) n _ _ _ _ _ _ _ _ _ _ _ _ _ (by omega) (by omega) (svP_b hg hs (by omega) hroom h)
theorem C_takeS {g : AN} {A I : Int32} {low high len : Nat → Int32} {bl : Bool} {room : Nat} (hg : gLinks g) (hr : CL low high len g) (hA : ∀ i, i < gK g → bt A i = gAl g i) (hI : ∀ i, i < gK g → bt I i = gMp g i) (hroom : room ≤ 18) : ∀ (m s fuel : Nat) (a : SV) (st co ca pl lk li ld : Int32) (vi ml mh far : Nat → Int32) (yu : Int32), s + m = gN g → m < fuel → SB a →
    ∃ (st' co' ca' pl' lk' li' ld' : Int32) (vi' ml' mh' far' : Nat → Int32) (yu' : Int32), f_X2_take_b6 fuel (b01 bl) (nI room) (nI s) (nI a.1) (nI a.2.1) (nI a.2.2.1) (nI a.2.2.2.1) (nI a.2.2.2.2.1) (nI a.2.2.2.2.2.1) (nI a.2.2.2.2.2.2.1) (nI a.2.2.2.2.2.2.2.1) (nI a.2.2.2.2.2.2.2.2) st co ca pl lk li ld vi ml mh far yu (nI (gN g)) (nI (gK g)) A I low high len = some (nI (svS g bl room s m a).1, nI (svS g bl room s m a).2.1, nI (svS g bl room s m a).2.2.1, nI (svS g bl room s m a).2.2.2.1, nI (svS g bl room s m a).2.2.2.2.1, nI (svS g bl room s m a).2.2.2.2.2.1, nI (svS g bl room s m a).2.2.2.2.2.2.1, nI (svS g bl room s m a).2.2.2.2.2.2.2.1, nI (svS g bl room s m a).2.2.2.2.2.2.2.2, st', co', ca', pl', lk', li', ld', vi', ml', mh', far', yu')
  | 0, s, fuel, a, st, co, ca, pl, lk, li, ld, vi, ml, mh, far, yu, h1, h2, h => by
    obtain ⟨n, rfl⟩ : ∃ n, fuel = n + 1 := ⟨fuel - 1, by omega⟩
    have h9 := hg.1
    rw [f_X2_take_b6, t_le (by omega) (by omega), if_pos (by omega)]
    exact ⟨_, _, _, _, _, _, _, _, _, _, _, _, rfl⟩
  | m + 1, s, fuel, a, st, co, ca, pl, lk, li, ld, vi, ml, mh, far, yu, h1, h2, h => by
    obtain ⟨n, rfl⟩ : ∃ n, fuel = n + 1 := ⟨fuel - 1, by omega⟩
    have h9 := hg.1
    rw [f_X2_take_b6, t_le (by omega) (by omega), if_neg (by omega), svS, l0]
    obtain ⟨st1, co1, ca1, pl1, lk1, li1, ld1, vi1, ml1, mh1, far1, yu1, q⟩ := C_takeT (bl := bl) hg hr hA hI (show s < gN g by omega) hroom (f_X2_take_b6 n) (gN g) 0 1000 a st co ca pl lk li ld vi ml mh far yu (by omega) (by omega) h
    rw [q, nI_1]
    exact C_takeS hg hr hA hI hroom m (s + 1) n _ _ _ _ _ _ _ _ _ _ _ _ _ (by omega) (by omega) (svT_b hg (by omega) hroom _ 0 a (by omega) h)
/-- Survey.take -/
theorem C_take {g : AN} {A I : Int32} {low high len : Nat → Int32} {bl : Bool} {room : Nat} (hg : gLinks g) (hr : CL low high len g) (hA : ∀ i, i < gK g → bt A i = gAl g i) (hI : ∀ i, i < gK g → bt I i = gMp g i) (hroom : room ≤ 18) (v1 v2 v3 v4 v5 v6 v7 v8 v9 st co ca pl lk li ld : Int32) (vi ml mh far : Nat → Int32) (yu : Int32) :
    ∃ (st' co' ca' pl' lk' li' ld' : Int32) (vi' ml' mh' far' : Nat → Int32) (yu' : Int32), f_X2_take (b01 bl) (nI room) v1 v2 v3 v4 v5 v6 v7 v8 v9 st co ca pl lk li ld vi ml mh far yu (nI (gN g)) (nI (gK g)) A I low high len = some (nI (sv g bl room).1, nI (sv g bl room).2.1, nI (sv g bl room).2.2.1, nI (sv g bl room).2.2.2.1, nI (sv g bl room).2.2.2.2.1, nI (sv g bl room).2.2.2.2.2.1, nI (sv g bl room).2.2.2.2.2.2.1, nI (sv g bl room).2.2.2.2.2.2.2.1, nI (sv g bl room).2.2.2.2.2.2.2.2, st', co', ca', pl', lk', li', ld', vi', ml', mh', far', yu') :=
  C_takeS hg hr hA hI hroom (gN g) 0 1000 (0, 0, 0, 0, 0, 0, 0, 0, 0) _ _ _ _ _ _ _ _ _ _ _ _ (by omega) (by have := hg.1; omega) ⟨by decide, by decide, by decide⟩
