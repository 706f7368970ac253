/-! rooms and arrivals over all pairs -/
def Q1 (r : Nat) (a b : SV) : Prop := a.2.1 ≤ b.2.1 ∧ (a.2.1 = b.2.1 ↔ b.2.2.2.2.2.2.1 ≤ r)
theorem svP_q1 {g : AN} (hg : gLinks g) {bl : Bool} {r s t : Nat} (hs : s < gN g) (ht : t < gN g) (hr : r ≤ 18) {a b : SV} (h : Q1 r a b) : Q1 r (svP g bl r s t a) (svP g bl 18 s t b) := by
  obtain ⟨h1, h2⟩ := h
  have k := lend_room (bl := bl) hg hs ht hr
  show a.2.1 + (if sCa (lend g bl r s t) = 0 then 1 else 0) ≤ b.2.1 + (if sCa (lend g bl 18 s t) = 0 then 1 else 0) ∧ (a.2.1 + (if sCa (lend g bl r s t) = 0 then 1 else 0) = b.2.1 + (if sCa (lend g bl 18 s t) = 0 then 1 else 0) ↔ (if sCa (lend g bl 18 s t) = 0 then max b.2.2.2.2.2.2.1 (sLd (lend g bl 18 s t)) else b.2.2.2.2.2.2.1) ≤ r)
  by_cases c : sCa (lend g bl 18 s t) = 0
  · rw [if_pos c, if_pos c]
    by_cases d : sLd (lend g bl 18 s t) ≤ r
    · rw [if_pos (k.mpr ⟨c, d⟩)]
      exact ⟨by omega, by omega⟩
    · rw [if_neg (fun q => d (k.mp q).2)]
      exact ⟨by omega, by omega⟩
  · rw [if_neg c, if_neg c, if_neg (fun q => c (k.mp q).1)]
    exact ⟨by omega, by omega⟩
theorem svT_q1 {g : AN} (hg : gLinks g) {bl : Bool} {r s : Nat} (hs : s < gN g) (hr : r ≤ 18) : ∀ (m t : Nat) (a b : SV), t + m = gN g → Q1 r a b → Q1 r (svT g bl r s t m a) (svT g bl 18 s t m b)
  | 0, t, a, b, _, h => h
  | m + 1, t, a, b, h1, h => by
    rw [svT, svT]
    refine svT_q1 hg hs hr m (t + 1) _ _ (by omega) ?_
    by_cases c : s = t
    · rw [if_pos c, if_pos c]; exact h
    · rw [if_neg c, if_neg c]; exact svP_q1 hg hs (by omega) hr h
theorem svS_q1 {g : AN} (hg : gLinks g) {bl : Bool} {r : Nat} (hr : r ≤ 18) : ∀ (m s : Nat) (a b : SV), s + m = gN g → Q1 r a b → Q1 r (svS g bl r s m a) (svS g bl 18 s m b)
  | 0, s, a, b, _, h => h
  | m + 1, s, a, b, h1, h => by
    rw [svS, svS]
    exact svS_q1 hg hr m (s + 1) _ _ (by omega) (svT_q1 hg (by omega) hr _ 0 a b (by omega) h)
theorem sv_q1 {g : AN} (hg : gLinks g) {bl : Bool} {r : Nat} (hr : r ≤ 18) : Q1 r (sv g bl r) (sv g bl 18) := svS_q1 hg hr (gN g) 0 _ _ (by omega) ⟨Nat.le_refl _, fun _ => Nat.zero_le r, fun _ => rfl⟩
/-- arrivals and true lengths -/
def Q2 (c : Nat) (a : SV) : Prop := a.2.1 ≤ c ∧ a.2.1 ≤ a.2.2.2.2.1 ∧ a.2.2.2.2.1 ≤ 2000 * a.2.1
theorem dd_far {g : AN} (hg : gOK g) {use : Nat → Bool} {t s : Nat} (ht : t < gN g) (hs : s ≠ t) (h : DD g use t s < 1000000) : 17 ≤ DD g use t s := by
  obtain ⟨l, v, -, hl, -, -, -, e⟩ := dd_tight hg.links ht hs h
  have := (hg.2.2.2.2 l hl).2.2.1
  omega
theorem svP_q2 {g : AN} (hg : gOK g) {bl : Bool} {r s t c : Nat} (hs : s < gN g) (ht : t < gN g) (hst : s ≠ t) (hr : r ≤ 18) {a : SV} (h : Q2 c a) : Q2 (c + 1) (svP g bl r s t a) := by
  obtain ⟨h1, h2, h3⟩ := h
  have k := lend_true (bl := bl) hg.links hs ht hr
  show a.2.1 + (if sCa (lend g bl r s t) = 0 then 1 else 0) ≤ c + 1 ∧ a.2.1 + (if sCa (lend g bl r s t) = 0 then 1 else 0) ≤ a.2.2.2.2.1 + (if sCa (lend g bl r s t) = 0 then DD g (gAl g) t s / 16 else 0) ∧ a.2.2.2.2.1 + (if sCa (lend g bl r s t) = 0 then DD g (gAl g) t s / 16 else 0) ≤ 2000 * (a.2.1 + (if sCa (lend g bl r s t) = 0 then 1 else 0))
  by_cases d : sCa (lend g bl r s t) = 0
  · rw [if_pos d, if_pos d]
    have h4 := k d
    have h5 := dd_far hg ht hst h4
    have h6 := (dd_spec hg.links (gAl g) ht).2.2.1 s
    exact ⟨by omega, by omega, by omega⟩
  · rw [if_neg d, if_neg d]
    exact ⟨by omega, by omega, by omega⟩
theorem svT_q2 {g : AN} (hg : gOK g) {bl : Bool} {r s : Nat} (hs : s < gN g) (hr : r ≤ 18) : ∀ (m t c : Nat) (a : SV), t + m = gN g → Q2 c a → Q2 (c + m) (svT g bl r s t m a)
  | 0, t, c, a, _, h => h
  | m + 1, t, c, a, h1, h => by
    rw [svT, show c + (m + 1) = c + 1 + m by omega]
    refine svT_q2 hg hs hr m (t + 1) (c + 1) _ (by omega) ?_
    by_cases d : s = t
    · rw [if_pos d]; exact ⟨Nat.le_succ_of_le h.1, h.2⟩
    · rw [if_neg d]; exact svP_q2 hg hs (by omega) d hr h
theorem svS_q2 {g : AN} (hg : gOK g) {bl : Bool} {r : Nat} (hr : r ≤ 18) : ∀ (m s c : Nat) (a : SV), s + m = gN g → Q2 c a → Q2 (c + 9 * m) (svS g bl r s m a)
  | 0, s, c, a, _, h => h
  | m + 1, s, c, a, h1, h => by
    have h9 := hg.2.1
    rw [svS, show c + 9 * (m + 1) = c + 9 + 9 * m by omega]
    refine svS_q2 hg hr m (s + 1) (c + 9) _ (by omega) ?_
    have := svT_q2 (bl := bl) (r := r) hg (show s < gN g by omega) hr (gN g) 0 c a (by omega) h
    exact ⟨Nat.le_trans this.1 (by omega), this.2⟩
theorem sv_q2 {g : AN} (hg : gOK g) {bl : Bool} {r : Nat} (hr : r ≤ 18) : Q2 81 (sv g bl r) := by
  have h := svS_q2 (bl := bl) (r := r) hg hr (gN g) 0 0 (0, 0, 0, 0, 0, 0, 0, 0, 0) (by omega) ⟨Nat.le_refl _, Nat.le_refl _, Nat.le_refl _⟩
  have h9 := hg.2.1
  exact ⟨Nat.le_trans h.1 (by omega), h.2⟩
theorem svS_b {g : AN} (hg : gLinks g) {bl : Bool} {room : Nat} (hroom : room ≤ 18) : ∀ (m s : Nat) (a : SV), s + m = gN g → SB a → SB (svS g bl room s m a)
  | 0, s, a, _, h => h
  | m + 1, s, a, h1, h => by
    rw [svS]
    exact svS_b hg hroom m (s + 1) _ (by omega) (svT_b hg (by omega) hroom _ 0 a (by omega) h)
theorem sv_b {g : AN} (hg : gLinks g) {bl : Bool} {room : Nat} (hroom : room ≤ 18) : SB (sv g bl room) := svS_b hg hroom (gN g) 0 _ (by omega) ⟨by decide, by decide, by decide⟩
theorem M_enough_b {g : AN} {w : Nat → Int32} (hg : gOK g) (hw : RM w g) {L : Nat} (hL : L = (sv g false 18).2.2.2.2.2.2.1) : ∀ (m r fuel : Nat) (may least ic li no : Nat → Int32) (ld st co ca lk : Int32) (q : Nat → Int32), r + m = L → m < fuel → SM q (sv g false r) →
    ∃ (may' least' ic' li' no' : Nat → Int32) (ld' st' co' ca' lk' : Int32) (q' : Nat → Int32), f_X6_enoughRoom_b22 fuel (nI (sv g false 18).2.1) (nI r) w may least ic li no ld st co ca lk q = some (nI L, may', least', ic', li', no', ld', st', co', ca', lk', q')
  | 0, r, fuel, may, least, ic, li, no, ld, st, co, ca, lk, q, h1, h2, hq => by
    obtain ⟨n, rfl⟩ : ∃ n, fuel = n + 1 := ⟨fuel - 1, by omega⟩
    have hb := (sv_b (bl := false) hg.links (Nat.le_refl 18)).2.1
    have hr : r ≤ 18 := by omega
    have a := sv_q1 (bl := false) hg.links hr
    have b := sv_q2 (bl := false) hg hr
    have b' := sv_q2 (bl := false) hg (Nat.le_refl 18)
    rw [f_X6_enoughRoom_b22, c1, hq.2.1, t_eq (by have := b.1; omega) (by have := b'.1; omega), if_pos (a.2.mpr (by omega))]
    have hrl : r = L := by omega
    rw [hrl]
    exact ⟨_, _, _, _, _, _, _, _, _, _, _, rfl⟩
  | m + 1, r, fuel, may, least, ic, li, no, ld, st, co, ca, lk, q, h1, h2, hq => by
    obtain ⟨n, rfl⟩ : ∃ n, fuel = n + 1 := ⟨fuel - 1, by omega⟩
    have hb := (sv_b (bl := false) hg.links (Nat.le_refl 18)).2.1
    have hr : r ≤ 18 := by omega
    have a := sv_q1 (bl := false) hg.links hr
    have b := sv_q2 (bl := false) hg hr
    have b' := sv_q2 (bl := false) hg (Nat.le_refl 18)
    rw [f_X6_enoughRoom_b22, c1, hq.2.1, t_eq (by have := b.1; omega) (by have := b'.1; omega), if_neg (fun e => by have := a.2.mp e; omega), nI_1]
    obtain ⟨may1, least1, ic1, li1, no1, ld1, st1, co1, ca1, lk1, q1, k1, k2⟩ := M_layAll (bl := false) hg.links hw (show r + 1 ≤ 18 by omega) may least ic li no ld st co ca lk q
    rw [show f_X6_layAll 0 (nI (r + 1)) w may least ic li no ld st co ca lk q = some (may1, least1, ic1, li1, no1, ld1, st1, co1, ca1, lk1, q1) from k1, Option.bind_some]
    exact M_enough_b hg hw hL m (r + 1) n _ _ _ _ _ _ _ _ _ _ _ (by omega) (by omega) k2
theorem S_enough {g : AN} {A I : Int32} {low high len w : Nat → Int32} (hg : gOK g) (hr : CL low high len g) (hA : ∀ i, i < gK g → bt A i = gAl g i) (hI : ∀ i, i < gK g → bt I i = gMp g i) (hw : RM w g) (far : Nat → Int32) (yu v1 v2 v3 v4 v5 v6 v7 v8 v9 cst cco cca cpl clk cli cld : Int32) (cvi cml cmh : Nat → Int32) (may least ic li no : Nat → Int32) (ld st co ca lk : Int32) (q : Nat → Int32) :
    ∃ (r : Int32) (far' : Nat → Int32) (yu' v1' v2' v3' v4' v5' v6' v7' v8' v9' cst' cco' cca' cpl' clk' cli' cld' : Int32) (cvi' cml' cmh' : Nat → Int32) (may' least' ic' li' no' : Nat → Int32) (ld' st' co' ca' lk' : Int32) (q' : Nat → Int32), f_X5_enoughRoom (nI (gN g)) (nI (gK g)) A I low high len far yu v1 v2 v3 v4 v5 v6 v7 v8 v9 cst cco cca cpl clk cli cld cvi cml cmh = some (r, far', yu', v1', v2', v3', v4', v5', v6', v7', v8', v9', cst', cco', cca', cpl', clk', cli', cld', cvi', cml', cmh') ∧ f_X6_enoughRoom w may least ic li no ld st co ca lk q = some (r, may', least', ic', li', no', ld', st', co', ca', lk', q') := by
  obtain ⟨st1, co1, ca1, pl1, lk1, li1, ld1, vi1, ml1, mh1, far1, yu1, k⟩ := C_take (bl := false) hg.links hr hA hI (Nat.le_refl 18) v1 v2 v3 v4 v5 v6 v7 v8 v9 cst cco cca cpl clk cli cld cvi cml cmh far yu
  obtain ⟨may2, least2, ic2, li2, no2, ld2, st2, co2, ca2, lk2, q2, m1, m2⟩ := M_layAll (bl := false) hg.links hw (Nat.le_refl 18) may least ic li no ld st co ca lk q
  obtain ⟨may3, least3, ic3, li3, no3, ld3, st3, co3, ca3, lk3, q3, m3, m4⟩ := M_layAll (bl := false) hg.links hw (Nat.zero_le 18) may2 least2 ic2 li2 no2 ld2 st2 co2 ca2 lk2 q2
  have hb := (sv_b (bl := false) hg.links (Nat.le_refl 18)).2.1
  obtain ⟨may4, least4, ic4, li4, no4, ld4, st4, co4, ca4, lk4, q4, m5⟩ := M_enough_b hg hw rfl (sv g false 18).2.2.2.2.2.2.1 0 1000 may3 least3 ic3 li3 no3 ld3 st3 co3 ca3 lk3 q3 (by omega) (by omega) m4
  unfold f_X5_enoughRoom f_X6_enoughRoom
  rw [show f_X2_take 0 18 v1 v2 v3 v4 v5 v6 v7 v8 v9 cst cco cca cpl clk cli cld cvi cml cmh far yu (nI (gN g)) (nI (gK g)) A I low high len = _ from k, show f_X6_layAll 0 18 w may least ic li no ld st co ca lk q = _ from m1, Option.bind_some, Option.bind_some]
  dsimp only
  rw [show f_X6_layAll 0 0 w may2 least2 ic2 li2 no2 ld2 st2 co2 ca2 lk2 q2 = _ from m3, Option.bind_some, c1, m2.2.1]
  exact ⟨_, _, _, _, _, _, _, _, _, _, _, _, _, _, _, _, _, _, _, _, _, _, _, _, _, _, _, _, _, _, _, _, _, rfl, m5⟩
theorem b01_1 (b : Bool) {α : Type} {x y : α} : (if b01 b = (1 : Int32) then x else y) = if b = true then x else y := b01_eq1 b
theorem S_all_b {g : AN} {A I : Int32} {low high len w : Nat → Int32} (hg : gOK g) (hr : CL low high len g) (hA : ∀ i, i < gK g → bt A i = gAl g i) (hI : ∀ i, i < gK g → bt I i = gMp g i) (hw : RM w g) (x1 : Nat) (hx1 : x1 ≤ 7) (bl : Bool) (far : Nat → Int32) (yu v1 v2 v3 v4 v5 v6 v7 v8 v9 cst cco cca cpl clk cli cld : Int32) (cvi cml cmh : Nat → Int32) (may least ic li no : Nat → Int32) (ld st co ca lk : Int32) (q : Nat → Int32) :
    ∃ (r : Int32) (far' : Nat → Int32) (yu' v1' v2' v3' v4' v5' v6' v7' v8' v9' cst' cco' cca' cpl' clk' cli' cld' : Int32) (cvi' cml' cmh' : Nat → Int32) (may' least' ic' li' no' : Nat → Int32) (ld' st' co' ca' lk' : Int32) (q' : Nat → Int32), f_X5_all_b33 (nI x1) (b01 bl) (nI (gN g)) (nI (gK g)) (nI (gR g)) A I low high len far yu v1 v2 v3 v4 v5 v6 v7 v8 v9 cst cco cca cpl clk cli cld cvi cml cmh = some (r, far', yu', v1', v2', v3', v4', v5', v6', v7', v8', v9', cst', cco', cca', cpl', clk', cli', cld', cvi', cml', cmh') ∧ f_X6_all_b32 (nI x1) (b01 bl) w may least ic li no ld st co ca lk q = some (r, may', least', ic', li', no', ld', st', co', ca', lk', q') := by
  have hroom := hg.2.2.2.1
  obtain ⟨st1, co1, ca1, pl1, lk1, li1, ld1, vi1, ml1, mh1, far1, yu1, k⟩ := C_take (bl := bl) hg.links hr hA hI hroom v1 v2 v3 v4 v5 v6 v7 v8 v9 cst cco cca cpl clk cli cld cvi cml cmh far yu
  obtain ⟨may2, least2, ic2, li2, no2, ld2, st2, co2, ca2, lk2, q2, m1, m2⟩ := M_layAll (bl := bl) hg.links hw hroom may least ic li no ld st co ca lk q
  unfold f_X5_all_b33 f_X6_all_b32
  rw [k, Option.bind_some, c2, hw.2.2.1, m1, Option.bind_some]
  dsimp only
  rw [t_inb (by omega), if_pos (show x1 < 8 by omega), n_cl (by omega)]
  rcases Nat.lt_or_ge x1 1 with c | c
  · have : x1 = 0 := by omega
    subst this
    rw [if_pos (by rfl), m2.1]; exact ⟨_, _, _, _, _, _, _, _, _, _, _, _, _, _, _, _, _, _, _, _, _, _, _, _, _, _, _, _, _, _, _, _, _, rfl, rfl⟩
  rw [if_neg (show ¬ nI x1 = (0 : Int32) by rw [l0, n_eq (by omega) (by omega)]; omega)]
  rcases Nat.lt_or_ge x1 2 with c | c
  · have : x1 = 1 := by omega
    subst this
    rw [if_pos (by rfl), m2.2.1]; exact ⟨_, _, _, _, _, _, _, _, _, _, _, _, _, _, _, _, _, _, _, _, _, _, _, _, _, _, _, _, _, _, _, _, _, rfl, rfl⟩
  rw [if_neg (show ¬ nI x1 = (1 : Int32) by rw [l1, n_eq (by omega) (by omega)]; omega)]
  rcases Nat.lt_or_ge x1 3 with c | c
  · have : x1 = 2 := by omega
    subst this
    rw [if_pos (by rfl), m2.2.2.1]; exact ⟨_, _, _, _, _, _, _, _, _, _, _, _, _, _, _, _, _, _, _, _, _, _, _, _, _, _, _, _, _, _, _, _, _, rfl, rfl⟩
  rw [if_neg (show ¬ nI x1 = (2 : Int32) by rw [l2, n_eq (by omega) (by omega)]; omega)]
  rcases Nat.lt_or_ge x1 4 with c | c
  · have : x1 = 3 := by omega
    subst this
    rw [if_pos (by rfl), m2.2.2.2.1]; exact ⟨_, _, _, _, _, _, _, _, _, _, _, _, _, _, _, _, _, _, _, _, _, _, _, _, _, _, _, _, _, _, _, _, _, rfl, rfl⟩
  rw [if_neg (show ¬ nI x1 = (3 : Int32) by rw [l3, n_eq (by omega) (by omega)]; omega)]
  rcases Nat.lt_or_ge x1 5 with c | c
  · have : x1 = 4 := by omega
    subst this
    rw [if_pos (by rfl), m2.2.2.2.2.1]; exact ⟨_, _, _, _, _, _, _, _, _, _, _, _, _, _, _, _, _, _, _, _, _, _, _, _, _, _, _, _, _, _, _, _, _, rfl, rfl⟩
  rw [if_neg (show ¬ nI x1 = (4 : Int32) by rw [l4, n_eq (by omega) (by omega)]; omega)]
  rcases Nat.lt_or_ge x1 6 with c | c
  · have : x1 = 5 := by omega
    subst this
    rw [if_pos (by rfl), m2.2.2.2.2.2.1]; exact ⟨_, _, _, _, _, _, _, _, _, _, _, _, _, _, _, _, _, _, _, _, _, _, _, _, _, _, _, _, _, _, _, _, _, rfl, rfl⟩
  rw [if_neg (show ¬ nI x1 = (5 : Int32) by rw [l5, n_eq (by omega) (by omega)]; omega)]
  rcases Nat.lt_or_ge x1 7 with c | c
  · have : x1 = 6 := by omega
    subst this
    rw [if_pos (by rfl), m2.2.2.2.2.2.2.1]; exact ⟨_, _, _, _, _, _, _, _, _, _, _, _, _, _, _, _, _, _, _, _, _, _, _, _, _, _, _, _, _, _, _, _, _, rfl, rfl⟩
  rw [if_neg (show ¬ nI x1 = (6 : Int32) by rw [show (6 : Int32) = nI 6 from rfl, n_eq (by omega) (by omega)]; omega)]
  have : x1 = 7 := by omega
  subst this
  rw [m2.2.2.2.2.2.2.2]; exact ⟨_, _, _, _, _, _, _, _, _, _, _, _, _, _, _, _, _, _, _, _, _, _, _, _, _, _, _, _, _, _, _, _, _, rfl, rfl⟩
theorem S_all {g : AN} {A I : Int32} {low high len w : Nat → Int32} (hg : gOK g) (hr : CL low high len g) (hA : ∀ i, i < gK g → bt A i = gAl g i) (hI : ∀ i, i < gK g → bt I i = gMp g i) (hw : RM w g) (p1 p2 : Int32) (far : Nat → Int32) (yu v1 v2 v3 v4 v5 v6 v7 v8 v9 cst cco cca cpl clk cli cld : Int32) (cvi cml cmh : Nat → Int32) (may least ic li no : Nat → Int32) (ld st co ca lk : Int32) (q : Nat → Int32) :
    ∃ (r : Int32) (far' : Nat → Int32) (yu' v1' v2' v3' v4' v5' v6' v7' v8' v9' cst' cco' cca' cpl' clk' cli' cld' : Int32) (cvi' cml' cmh' : Nat → Int32) (may' least' ic' li' no' : Nat → Int32) (ld' st' co' ca' lk' : Int32) (q' : Nat → Int32), f_X5_all p1 p2 (nI (gN g)) (nI (gK g)) (nI (gR g)) A I low high len far yu v1 v2 v3 v4 v5 v6 v7 v8 v9 cst cco cca cpl clk cli cld cvi cml cmh = some (r, far', yu', v1', v2', v3', v4', v5', v6', v7', v8', v9', cst', cco', cca', cpl', clk', cli', cld', cvi', cml', cmh') ∧ f_X6_all p1 p2 w may least ic li no ld st co ca lk q = some (r, may', least', ic', li', no', ld', st', co', ca', lk', q') := by
  unfold f_X5_all f_X6_all
  rcases chk_in p1 (a := 0) (b := 7) (by omega) (by omega) with ⟨e, c⟩ | ⟨x1, -, hx1, rfl, e⟩
  · rw [show f_X6_isIn p1 0 7 = 0 from e, if_pos (show (0 : Int32) = 0 from rfl)]
    rcases c with c | c
    · rw [if_pos (show p1 < 0 from c)]; exact ⟨_, _, _, _, _, _, _, _, _, _, _, _, _, _, _, _, _, _, _, _, _, _, _, _, _, _, _, _, _, _, _, _, _, rfl, rfl⟩
    · by_cases d : p1 < 0
      · rw [if_pos d]; exact ⟨_, _, _, _, _, _, _, _, _, _, _, _, _, _, _, _, _, _, _, _, _, _, _, _, _, _, _, _, _, _, _, _, _, rfl, rfl⟩
      · rw [if_neg d, if_pos (show (7 : Int32) < p1 from c)]; exact ⟨_, _, _, _, _, _, _, _, _, _, _, _, _, _, _, _, _, _, _, _, _, _, _, _, _, _, _, _, _, _, _, _, _, rfl, rfl⟩
  · rw [show f_X6_isIn (nI x1) 0 7 = 1 from e, if_neg ne10, if_neg (n_nneg (by omega)), if_neg (show ¬ (7 : Int32) < nI x1 by rw [l7, n_lt (by omega) (by omega)]; omega)]
    rcases chk_flag p2 with ⟨e1, e2⟩ | ⟨b, rfl, e1, e2⟩
    · rw [e1, e2, if_pos rfl, if_pos rfl]; exact ⟨_, _, _, _, _, _, _, _, _, _, _, _, _, _, _, _, _, _, _, _, _, _, _, _, _, _, _, _, _, _, _, _, _, rfl, rfl⟩
    · rw [e1, e2, if_neg ne10, if_neg ne10, b01_eq1, b01_eq1]
      cases b with
      | true => rw [if_pos rfl, if_pos rfl]; exact S_all_b hg hr hA hI hw x1 hx1 true far yu v1 v2 v3 v4 v5 v6 v7 v8 v9 cst cco cca cpl clk cli cld cvi cml cmh may least ic li no ld st co ca lk q
      | false => rw [if_neg (by decide), if_neg (by decide)]; exact S_all_b hg hr hA hI hw x1 hx1 false far yu v1 v2 v3 v4 v5 v6 v7 v8 v9 cst cco cca cpl clk cli cld cvi cml cmh may least ic li no ld st co ca lk q
theorem S_stretch_b {g : AN} {A I : Int32} {low high len w : Nat → Int32} (hg : gOK g) (hr : CL low high len g) (hA : ∀ i, i < gK g → bt A i = gAl g i) (hI : ∀ i, i < gK g → bt I i = gMp g i) (hw : RM w g) (bl : Bool) (far : Nat → Int32) (yu v1 v2 v3 v4 v5 v6 v7 v8 v9 cst cco cca cpl clk cli cld : Int32) (cvi cml cmh : Nat → Int32) (may least ic li no : Nat → Int32) (ld st co ca lk : Int32) (q : Nat → Int32) :
    ∃ (r : UInt32) (far' : Nat → Int32) (yu' v1' v2' v3' v4' v5' v6' v7' v8' v9' cst' cco' cca' cpl' clk' cli' cld' : Int32) (cvi' cml' cmh' : Nat → Int32) (may' least' ic' li' no' : Nat → Int32) (ld' st' co' ca' lk' : Int32) (q' : Nat → Int32), f_X5_stretch_b24 (b01 bl) (nI (gN g)) (nI (gK g)) (nI (gR g)) A I low high len far yu v1 v2 v3 v4 v5 v6 v7 v8 v9 cst cco cca cpl clk cli cld cvi cml cmh = some (r, far', yu', v1', v2', v3', v4', v5', v6', v7', v8', v9', cst', cco', cca', cpl', clk', cli', cld', cvi', cml', cmh') ∧ f_X6_stretch_b23 (b01 bl) w may least ic li no ld st co ca lk q = some (r, may', least', ic', li', no', ld', st', co', ca', lk', q') := by
  have hroom := hg.2.2.2.1
  obtain ⟨st1, co1, ca1, pl1, lk1, li1, ld1, vi1, ml1, mh1, far1, yu1, k⟩ := C_take (bl := bl) hg.links hr hA hI hroom v1 v2 v3 v4 v5 v6 v7 v8 v9 cst cco cca cpl clk cli cld cvi cml cmh far yu
  obtain ⟨may2, least2, ic2, li2, no2, ld2, st2, co2, ca2, lk2, q2, m1, m2⟩ := M_layAll (bl := bl) hg.links hw hroom may least ic li no ld st co ca lk q
  obtain ⟨z1, z2, z3⟩ := sv_q2 (bl := bl) hg hroom
  unfold f_X5_stretch_b24 f_X6_stretch_b23
  rw [k, Option.bind_some, c2, hw.2.2.1, m1, Option.bind_some]
  dsimp only
  rw [c1, c3, c4, m2.2.1, m2.2.2.2.1, m2.2.2.2.2.1, l0, t_eq (by omega) (by omega), t_eq (by omega) (by omega)]
  by_cases c : (sv g bl (gR g)).2.1 = 0
  · rw [if_pos c, if_pos (show (sv g bl (gR g)).2.2.2.2.1 = 0 by omega)]; exact ⟨_, _, _, _, _, _, _, _, _, _, _, _, _, _, _, _, _, _, _, _, _, _, _, _, _, _, _, _, _, _, _, _, _, rfl, rfl⟩
  · rw [if_neg c, if_neg (show ¬ (sv g bl (gR g)).2.2.2.2.1 = 0 by omega)]; exact ⟨_, _, _, _, _, _, _, _, _, _, _, _, _, _, _, _, _, _, _, _, _, _, _, _, _, _, _, _, _, _, _, _, _, rfl, rfl⟩
theorem S_stretch {g : AN} {A I : Int32} {low high len w : Nat → Int32} (hg : gOK g) (hr : CL low high len g) (hA : ∀ i, i < gK g → bt A i = gAl g i) (hI : ∀ i, i < gK g → bt I i = gMp g i) (hw : RM w g) (p1 : Int32) (far : Nat → Int32) (yu v1 v2 v3 v4 v5 v6 v7 v8 v9 cst cco cca cpl clk cli cld : Int32) (cvi cml cmh : Nat → Int32) (may least ic li no : Nat → Int32) (ld st co ca lk : Int32) (q : Nat → Int32) :
    ∃ (r : UInt32) (far' : Nat → Int32) (yu' v1' v2' v3' v4' v5' v6' v7' v8' v9' cst' cco' cca' cpl' clk' cli' cld' : Int32) (cvi' cml' cmh' : Nat → Int32) (may' least' ic' li' no' : Nat → Int32) (ld' st' co' ca' lk' : Int32) (q' : Nat → Int32), f_X5_stretch p1 (nI (gN g)) (nI (gK g)) (nI (gR g)) A I low high len far yu v1 v2 v3 v4 v5 v6 v7 v8 v9 cst cco cca cpl clk cli cld cvi cml cmh = some (r, far', yu', v1', v2', v3', v4', v5', v6', v7', v8', v9', cst', cco', cca', cpl', clk', cli', cld', cvi', cml', cmh') ∧ f_X6_stretch p1 w may least ic li no ld st co ca lk q = some (r, may', least', ic', li', no', ld', st', co', ca', lk', q') := by
  unfold f_X5_stretch f_X6_stretch
  rcases chk_flag p1 with ⟨e1, e2⟩ | ⟨b, rfl, e1, e2⟩
  · rw [e1, e2, if_pos rfl, if_pos rfl]; exact ⟨_, _, _, _, _, _, _, _, _, _, _, _, _, _, _, _, _, _, _, _, _, _, _, _, _, _, _, _, _, _, _, _, _, rfl, rfl⟩
  · rw [e1, e2, if_neg ne10, if_neg ne10, b01_eq1, b01_eq1]
    cases b with
    | true => rw [if_pos rfl, if_pos rfl]; exact S_stretch_b hg hr hA hI hw true far yu v1 v2 v3 v4 v5 v6 v7 v8 v9 cst cco cca cpl clk cli cld cvi cml cmh may least ic li no ld st co ca lk q
    | false => rw [if_neg (by decide), if_neg (by decide)]; exact S_stretch_b hg hr hA hI hw false far yu v1 v2 v3 v4 v5 v6 v7 v8 v9 cst cco cca cpl clk cli cld cvi cml cmh may least ic li no ld st co ca lk q
