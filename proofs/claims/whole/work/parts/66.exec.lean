/-! execute -/
theorem M_ex58 {past text cs held : Nat → Int32} {x1' pm length old cm : Int32} : ∀ (m k fuel : Nat) (w : Nat → Int32), k + m = 93 → m < fuel → (∀ x, x < k → w x = held x) → ∃ w' : Nat → Int32, f_X6_execute_b58 fuel x1' (nI k) w past pm text length old cs cm held = some ((-100 : Int32) - x1', w', past, pm, old, cs, cm, held) ∧ ∀ x, x < 93 → w' x = held x
  | 0, k, fuel, w, h1, h2, h => by
    obtain ⟨n, rfl⟩ : ∃ n, fuel = n + 1 := ⟨fuel - 1, by omega⟩
    rw [f_X6_execute_b58, l93, t_le (by omega) (by omega), if_pos (by omega)]
    exact ⟨w, rfl, fun x hx => h x (by omega)⟩
  | m + 1, k, fuel, w, h1, h2, h => by
    obtain ⟨n, rfl⟩ : ∃ n, fuel = n + 1 := ⟨fuel - 1, by omega⟩
    rw [f_X6_execute_b58, l93, t_le (by omega) (by omega), if_neg (by omega), t_inb (by omega), if_pos (show k < 93 by omega), n_cl (by omega), nI_1]
    refine M_ex58 m (k + 1) n _ (by omega) (by omega) (fun x hx => ?_)
    by_cases c : x = k
    · subst c; rw [upd_eq]
    · rw [upd_ne c]; exact h x (by omega)
theorem M_ex14 {w past text cs : Nat → Int32} {pm length old cm : Int32} : ∀ (m k fuel : Nat) (held : Nat → Int32), k + m = 93 → m < fuel → (∀ x, x < k → held x = w x) → ∃ held' : Nat → Int32, f_X6_execute_b14 fuel (nI k) w past pm text length old cs cm held = f_X6_execute_b40 1000 0 w past pm text length old cs cm held' ∧ ∀ x, x < 93 → held' x = w x
  | 0, k, fuel, held, h1, h2, h => by
    obtain ⟨n, rfl⟩ : ∃ n, fuel = n + 1 := ⟨fuel - 1, by omega⟩
    rw [f_X6_execute_b14, l93, t_le (by omega) (by omega), if_pos (by omega)]
    exact ⟨held, rfl, fun x hx => h x (by omega)⟩
  | m + 1, k, fuel, held, h1, h2, h => by
    obtain ⟨n, rfl⟩ : ∃ n, fuel = n + 1 := ⟨fuel - 1, by omega⟩
    rw [f_X6_execute_b14, l93, t_le (by omega) (by omega), if_neg (by omega), t_inb (by omega), if_pos (show k < 93 by omega), n_cl (by omega), nI_1]
    refine M_ex14 m (k + 1) n _ (by omega) (by omega) (fun x hx => ?_)
    by_cases c : x = k
    · subst c; rw [upd_eq]
    · rw [upd_ne c]; exact h x (by omega)
/-- the end of execute: all commands are carried out -/
theorem S_ex73 {g gd : AN} {v d : NV} {w past held codes : Nat → Int32} {pi : Nat → Nat} {und fits size fa ws we kd fi se dg : Int32} {hC : Nat → NV} (x1' : Int32) (hg : gOK g) (hr : RC v g) (hh : HR pi und hC past) (hheld : RM held g) (hgd : gOK gd) (hrd : RC d gd) (hw : RM w gd) :
    ∃ (pi' : Nat → Nat) (und' : Int32) (v' : NV) (hC' : Nat → NV) (past' : Nat → Int32), f_X5_execute_b73 x1' pi und fits v.1 v.2.1 v.2.2.1 v.2.2.2.1 v.2.2.2.2.1 v.2.2.2.2.2.1 v.2.2.2.2.2.2.1 v.2.2.2.2.2.2.2 d.1 d.2.1 d.2.2.1 d.2.2.2.1 d.2.2.2.2.1 d.2.2.2.2.2.1 d.2.2.2.2.2.2.1 d.2.2.2.2.2.2.2 codes size fa ws we kd fi se dg hC = some (x1', pi', und', 0, v'.1, v'.2.1, v'.2.2.1, v'.2.2.2.1, v'.2.2.2.2.1, v'.2.2.2.2.2.1, v'.2.2.2.2.2.2.1, v'.2.2.2.2.2.2.2, d.1, d.2.1, d.2.2.1, d.2.2.2.1, d.2.2.2.2.1, d.2.2.2.2.2.1, d.2.2.2.2.2.2.1, d.2.2.2.2.2.2.2, fa, ws, we, kd, fi, se, dg, hC') ∧ f_X6_recordH past und held = some (past', und') ∧ RC v' gd ∧ HR pi' und' hC' past' := by
  obtain ⟨pi', und', hC', past', k1, k2, k3⟩ := S_record hh hg hr hheld
  obtain ⟨v', c1', -, hv⟩ := C_copy v d
  unfold f_X5_execute_b73
  rw [k1, Option.bind_some]
  dsimp only
  rw [c1', Option.bind_some, M_recH]
  exact ⟨pi', und', v', hC', past', rfl, k2, hv gd hgd.2.2.1 hrd, k3⟩
theorem S_ex_b {g : AN} {v : NV} {past held codes text cs : Nat → Int32} {pi : Nat → Nat} {und fits old : Int32} {hC : Nat → NV} {T : Nat → Nat} {n N : Nat} (hg : gOK g) (hr : RC v g) (hh : HR pi und hC past) (hheld : RM held g) (hT : TX codes T n) (hR : RD T n N) (hz : (pcm T n (ep T n N)).1 = 0) (hcs : ∀ j, j < N → CS cs j (pcm T n (ep T n j))) : ∀ (m i f1 f2 : Nat) (gd : AN) (d : NV) (w : Nat → Int32) (ws kd fi se dg : Int32), i + m = N → m < f1 → m < f2 → gOK gd → RC d gd → RM w gd →
    ∃ (r : Int32) (pi' : Nat → Nat) (und' fits' : Int32) (v' d' : NV) (fa' ws' we' kd' fi' se' dg' : Int32) (hC' : Nat → NV) (w' past' : Nat → Int32) (old' : Int32) (g' : AN), f_X5_execute_b32 f1 (nI i) pi und fits v.1 v.2.1 v.2.2.1 v.2.2.2.1 v.2.2.2.2.1 v.2.2.2.2.2.1 v.2.2.2.2.2.2.1 v.2.2.2.2.2.2.2 d.1 d.2.1 d.2.2.1 d.2.2.2.1 d.2.2.2.2.1 d.2.2.2.2.2.1 d.2.2.2.2.2.2.1 d.2.2.2.2.2.2.2 codes (nI n) (-9) ws (nI (ep T n i)) kd fi se dg hC = some (r, pi', und', fits', v'.1, v'.2.1, v'.2.2.1, v'.2.2.2.1, v'.2.2.2.2.1, v'.2.2.2.2.2.1, v'.2.2.2.2.2.2.1, v'.2.2.2.2.2.2.2, d'.1, d'.2.1, d'.2.2.1, d'.2.2.2.1, d'.2.2.2.2.1, d'.2.2.2.2.2.1, d'.2.2.2.2.2.2.1, d'.2.2.2.2.2.2.2, fa', ws', we', kd', fi', se', dg', hC') ∧ f_X6_execute_b40 f2 (nI i) w past und text (nI n) old cs (nI N) held = some (r, w', past', und', old', cs, nI N, held) ∧ gOK g' ∧ RC v' g' ∧ RM w' g' ∧ HR pi' und' hC' past' ∧ FT fits old (gK g) fits' old' (gK g')
  | 0, i, f1, f2, gd, d, w, ws, kd, fi, se, dg, h1, h2, h3, hgd, hrd, hw => by
    obtain ⟨k1, rfl⟩ : ∃ k, f1 = k + 1 := ⟨f1 - 1, by omega⟩
    obtain ⟨k2, rfl⟩ : ∃ k, f2 = k + 1 := ⟨f2 - 1, by omega⟩
    have hn := hT.1
    obtain ⟨r1, r2, r3⟩ := id hR
    have hi : i = N := by omega
    subst hi
    have hb := ep_b i r2
    rw [f_X5_execute_b32, f_X6_execute_b40, l80, t_le (by omega) (by omega), t_le (by omega) (by omega), if_pos (Nat.le_refl i)]
    by_cases c80 : 80 ≤ i
    · rw [if_pos c80]
      obtain ⟨pi', und', v', hC', past', e1, e2, e3, e4⟩ := S_ex73 (codes := codes) (size := nI n) (fa := -9) (ws := ws) (we := nI (ep T n i)) (kd := kd) (fi := fi) (se := se) (dg := dg) (fits := fits) (nI i) hg hr hh hheld hgd hrd hw
      rw [e1, e2, Option.bind_some]
      exact ⟨_, _, _, _, v', d, _, _, _, _, _, _, _, _, _, _, _, gd, rfl, rfl, hgd, e3, hw, e4, Or.inl ⟨rfl, rfl⟩⟩
    · rw [if_neg c80]
      obtain ⟨r, fa', ws', we', kd', fi', se', dg', q1, q2⟩ := C_readCommand (fa := -9) (z := ws) (kd := kd) (fi := fi) (se := se) (dg := dg) hT hb.2
      have hr0 : r = 0 ∧ fa' = -9 := by
        rcases q2 with ⟨y1, y2, y3⟩ | ⟨y1, -⟩ | ⟨y1, -⟩
        · exact ⟨y2, y3⟩
        · rw [hz] at y1; cases y1
        · rw [hz] at y1; cases y1
      obtain ⟨pi', und', v', hC', past', e1, e2, e3, e4⟩ := S_ex73 (codes := codes) (size := nI n) (fa := fa') (ws := ws') (we := we') (kd := kd') (fi := fi') (se := se') (dg := dg') (fits := fits) (nI i) hg hr hh hheld hgd hrd hw
      rw [q1, Option.bind_some]
      dsimp only
      rw [hr0.1, if_pos (show (0 : Int32) = 0 from rfl), e1, e2, Option.bind_some]
      exact ⟨_, _, _, _, v', d, _, _, _, _, _, _, _, _, _, _, _, gd, rfl, rfl, hgd, e3, hw, e4, Or.inl ⟨rfl, rfl⟩⟩
  | m + 1, i, f1, f2, gd, d, w, ws, kd, fi, se, dg, h1, h2, h3, hgd, hrd, hw => by
    obtain ⟨k1, rfl⟩ : ∃ k, f1 = k + 1 := ⟨f1 - 1, by omega⟩
    obtain ⟨k2, rfl⟩ : ∃ k, f2 = k + 1 := ⟨f2 - 1, by omega⟩
    have hn := hT.1
    obtain ⟨r1, r2, r3⟩ := id hR
    have hb := ep_b i (fun j hj => r2 j (by omega))
    have t2 := r2 i (by omega)
    rw [f_X5_execute_b32, f_X6_execute_b40, l80, t_le (by omega) (by omega), t_le (by omega) (by omega), if_neg (show ¬ N ≤ i by omega), if_neg (show ¬ 80 ≤ i by omega)]
    obtain ⟨r, fa', ws', we', kd', fi', se', dg', q1, q2⟩ := C_readCommand (fa := -9) (z := ws) (kd := kd) (fi := fi) (se := se) (dg := dg) hT hb.2
    have hok := (pcm_ok (T := T) hb.2).2.2 t2
    rcases q2 with ⟨y1, -⟩ | ⟨y1, -⟩ | ⟨y1, rfl, rfl, rfl, y5, y6, y7⟩
    · rw [t2] at y1; cases y1
    · rw [t2] at y1; cases y1
    obtain ⟨ok, n', k', A', I', lo', hi', ln', w', gd', u1, u2, u3⟩ := S_carry hgd hrd hw (show i < 80 by omega) (hcs i (by omega)) hok.2.2.1 hok.2.2.2.1 hok.2.2.2.2.1 hok.2.2.2.2.2 y5 y6 y7
    rw [q1, Option.bind_some]
    dsimp only
    rw [if_neg ne10, u1, Option.bind_some, u2, Option.bind_some]
    dsimp only
    rw [b01_eq0, b01_eq0, nI_1]
    cases ok with
    | false =>
      rw [if_neg (by decide), if_neg (by decide)]
      obtain ⟨w'', z1, z2⟩ := M_ex58 (past := past) (text := text) (cs := cs) (held := held) (x1' := nI i) (pm := und) (length := nI n) (old := old) (cm := nI N) 93 0 1000 w' (by omega) (by omega) (fun x hx => by omega)
      rw [show f_X6_execute_b58 1000 (nI i) 0 w' past und text (nI n) old cs (nI N) held = _ from z1]
      exact ⟨_, _, _, _, v, (n', k', d.2.2.1, A', I', lo', hi', ln'), _, _, _, _, _, _, _, _, _, _, _, g, rfl, rfl, hg, hr, RM.congr hg.2.2.1 z2 hheld, hh, Or.inr ⟨rfl, rfl, rfl⟩⟩
    | true =>
      rw [if_pos rfl, if_pos rfl]
      obtain ⟨v1, v2, v3⟩ := u3 rfl
      exact S_ex_b hg hr hh hheld hT hR hz hcs m (i + 1) k1 k2 gd' (n', k', d.2.2.1, A', I', lo', hi', ln') w' _ _ _ _ _ (by omega) (by omega) (by omega) v1 v2 v3
theorem S_execute {g : AN} {v d : NV} {w past codes text : Nat → Int32} {pi : Nat → Nat} {und fits old size length : Int32} {hC : Nat → NV} (hg : gOK g) (hr : RC v g) (hw : RM w g) (hh : HR pi und hC past) (ht : TR codes size text length) (fa ws we kd fi se dg : Int32) (cs : Nat → Int32) (cm : Int32) (held : Nat → Int32) :
    ∃ (r : Int32) (pi' : Nat → Nat) (und' fits' : Int32) (v' d' : NV) (fa' ws' we' kd' fi' se' dg' : Int32) (hC' : Nat → NV) (w' past' : Nat → Int32) (old' : Int32) (cs' : Nat → Int32) (cm' : Int32) (held' : Nat → Int32) (g' : AN), f_X5_execute pi und fits v.1 v.2.1 v.2.2.1 v.2.2.2.1 v.2.2.2.2.1 v.2.2.2.2.2.1 v.2.2.2.2.2.2.1 v.2.2.2.2.2.2.2 d.1 d.2.1 d.2.2.1 d.2.2.2.1 d.2.2.2.2.1 d.2.2.2.2.2.1 d.2.2.2.2.2.2.1 d.2.2.2.2.2.2.2 codes size fa ws we kd fi se dg hC = some (r, pi', und', fits', v'.1, v'.2.1, v'.2.2.1, v'.2.2.2.1, v'.2.2.2.2.1, v'.2.2.2.2.2.1, v'.2.2.2.2.2.2.1, v'.2.2.2.2.2.2.2, d'.1, d'.2.1, d'.2.2.1, d'.2.2.2.1, d'.2.2.2.2.1, d'.2.2.2.2.2.1, d'.2.2.2.2.2.2.1, d'.2.2.2.2.2.2.2, fa', ws', we', kd', fi', se', dg', hC') ∧ f_X6_execute w past und text length old cs cm held = some (r, w', past', und', old', cs', cm', held') ∧ gOK g' ∧ RC v' g' ∧ RM w' g' ∧ HR pi' und' hC' past' ∧ FT fits old (gK g) fits' old' (gK g') := by
  obtain ⟨n, T, h1, h2, rfl, rfl⟩ := ht
  obtain ⟨cs', N, m1, m2, m3⟩ := M_read h2 cs cm
  obtain ⟨fa', ws', we', kd', fi', se', dg', k⟩ := C_fault h1 m2 fa ws we kd fi se dg
  unfold f_X5_execute f_X6_execute
  rw [k, Option.bind_some, m1, Option.bind_some]
  dsimp only
  by_cases hz : (pcm T n (ep T n N)).1 = 0
  · have e : rdz T n N = -9 := by unfold rdz; rw [if_pos hz]
    obtain ⟨d0, c1', -, hd⟩ := C_copy d v
    obtain ⟨held', z1, z2⟩ := M_ex14 (w := w) (past := past) (text := text) (cs := cs') (pm := und) (length := nI n) (old := old) (cm := nI N) 93 0 1000 held (by omega) (by omega) (fun x hx => by omega)
    rw [if_pos e, if_pos e, c1', Option.bind_some, show f_X6_execute_b14 1000 0 w past und text (nI n) old cs' (nI N) held = _ from z1]
    obtain ⟨r, pi', und', fits', v', d', fa2, ws2, we2, kd2, fi2, se2, dg2, hC', w', past', old', g', x1', x2', x3, x4, x5, x6, x7⟩ := S_ex_b (text := text) (fits := fits) (old := old) hg hr hh (RM.congr hg.2.2.1 z2 hw) h1 m2 hz (m3 hz) N 0 1000 1000 g d0 w 0 kd' fi' se' dg' (by omega) (by have := m2.1; omega) (by have := m2.1; omega) hg (hd g hg.2.2.1 hr) hw
    exact ⟨r, pi', und', fits', v', d', fa2, ws2, we2, kd2, fi2, se2, dg2, hC', w', past', old', cs', nI N, held', g', x1', x2', x3, x4, x5, x6, x7⟩
  · have ht1 : (pcm T n (ep T n N)).1 = 1 := by
      rcases m2.2.2 with q | q
      · exact absurd q hz
      · exact q.1
    have hb := ep_b N m2.2.1
    have hp := (pcm_ok (T := T) hb.2).2.1 ht1
    have hn := h1.1
    have e : ¬ rdz T n N = -9 := by unfold rdz; rw [if_neg hz]; exact n_ne (by omega) (by decide)
    rw [if_neg e, if_neg e]
    exact ⟨_, _, _, _, v, d, _, _, _, _, _, _, _, _, _, _, _, _, _, _, g, rfl, rfl, hg, hr, hw, hh, Or.inr ⟨rfl, rfl, rfl⟩⟩
