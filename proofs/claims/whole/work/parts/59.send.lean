/-! send -/
theorem M_send70 {g : AN} {s : LSt} {w may least ic li no : Nat → Int32} {st co ca lk sent old km : Int32} {kn nums : Nat → Int32} (hk : gK g ≤ 18) (hw : RM w g) (hld : sLd s ≤ 18) (hli : ∀ j, j < sLd s → li j = nI (sLi s j) ∧ sLi s j < gK g) : ∀ (m j fuel : Nat) (kept klo khi : Nat → Int32), j + m = sLd s → m < fuel → (∀ i, i < j → kept i = nI (sLi s i) ∧ klo i = nI (gLo g (sLi s i)) ∧ khi i = nI (gHi g (sLi s i))) → ∃ kept' klo' khi' : Nat → Int32, f_X6_send_b70 fuel (nI j) w may least ic li no (nI (sLd s)) st co ca lk sent old kept klo khi km kn nums = f_X6_send_b140 1000 0 w may least ic li no (nI (sLd s)) st co ca lk sent old kept' klo' khi' km kn nums ∧ ∀ i, i < sLd s → kept' i = nI (sLi s i) ∧ klo' i = nI (gLo g (sLi s i)) ∧ khi' i = nI (gHi g (sLi s i))
  | 0, j, fuel, kept, klo, khi, h1, h2, h => by
    obtain ⟨n, rfl⟩ : ∃ n, fuel = n + 1 := ⟨fuel - 1, by omega⟩
    rw [f_X6_send_b70, t_le (by omega) (by omega), if_pos (by omega)]
    exact ⟨kept, klo, khi, rfl, fun i hi => h i (by omega)⟩
  | m + 1, j, fuel, kept, klo, khi, h1, h2, h => by
    obtain ⟨n, rfl⟩ : ∃ n, fuel = n + 1 := ⟨fuel - 1, by omega⟩
    obtain ⟨e1, e2⟩ := hli j (by omega)
    obtain ⟨z1, z2, -⟩ := hw.2.2.2 (sLi s j) e2
    rw [f_X6_send_b70, t_le (by omega) (by omega), if_neg (by omega), t_inb (by omega), if_pos (show j < 18 by omega), n_cl (by omega), e1, M_of0 (by omega), Option.bind_some, M_of1 (by omega), Option.bind_some, z1, z2, nI_1]
    refine M_send70 hk hw hld hli m (j + 1) n _ _ _ (by omega) (by omega) (fun i hi => ?_)
    by_cases c : i = j
    · subst c; rw [upd_eq, upd_eq, upd_eq]; exact ⟨rfl, rfl, rfl⟩
    · rw [upd_ne c, upd_ne c, upd_ne c]; exact h i (by omega)
theorem M_send140 {w may least ic li no : Nat → Int32} {ld co ca lk sent old km : Int32} {kept klo khi nums : Nat → Int32} {st : Nat} (hst : st ≤ 40) : ∀ (m j fuel : Nat) (kn : Nat → Int32), j + m = st + 1 → m < fuel → (∀ i, i < j → kn i = no i) → ∃ kn' nums' : Nat → Int32, f_X6_send_b140 fuel (nI j) w may least ic li no ld (nI st) co ca lk sent old kept klo khi km kn nums = some (if ca = 0 then nI st else (-10 : Int32) - ca, may, least, ic, li, no, ld, nI st, co, ca, lk, sent, old, kept, klo, khi, km, kn', nums') ∧ (∀ i, i ≤ st → kn' i = no i) ∧ nums' 0 = nI st ∧ nums' 1 = co ∧ nums' 2 = ld ∧ nums' 3 = ca ∧ nums' 4 = no st ∧ nums' 5 = lk
  | 0, j, fuel, kn, h1, h2, h => by
    obtain ⟨n, rfl⟩ : ∃ n, fuel = n + 1 := ⟨fuel - 1, by omega⟩
    rw [f_X6_send_b140, t_lt (by omega) (by omega), if_pos (by omega), t_inb (by omega), if_pos (show st < 41 by omega), n_cl (by omega)]
    by_cases c : ca = 0
    · rw [if_pos c, if_pos c]
      exact ⟨_, _, rfl, fun i hi => h i (by omega), rfl, rfl, rfl, rfl, rfl, rfl⟩
    · rw [if_neg c, if_neg c]
      exact ⟨_, _, rfl, fun i hi => h i (by omega), rfl, rfl, rfl, rfl, rfl, rfl⟩
  | m + 1, j, fuel, kn, h1, h2, h => by
    obtain ⟨n, rfl⟩ : ∃ n, fuel = n + 1 := ⟨fuel - 1, by omega⟩
    rw [f_X6_send_b140, t_lt (by omega) (by omega), if_neg (by omega), t_inb (by omega), if_pos (show j < 41 by omega), n_cl (by omega), nI_1]
    refine M_send140 hst m (j + 1) n _ (by omega) (by omega) (fun i hi => ?_)
    by_cases c : i = j
    · subst c; rw [upd_eq]
    · rw [upd_ne c]; exact h i (by omega)
theorem S_send_b {g : AN} {A I : Int32} {low high len w : Nat → Int32} (hg : gOK g) (hr : CL low high len g) (hA : Msk A (gK g) (gAl g)) (hI : Msk I (gK g) (gMp g)) (hw : RM w g) {sent fits ts tc tca tp tk tl tld : Int32} {tv tml tmh : Nat → Int32} {old : Int32} {kept klo khi : Nat → Int32} {km : Int32} {kn nums : Nat → Int32} (bl : Bool) {x t : Nat} (hx : x < gN g) (ht : t < gN g) (far : Nat → Int32) (yu : Int32) (may least ic li no : Nat → Int32) (ld st co ca lk : Int32) :
    ∃ (r sent' fits' : Int32) (far' : Nat → Int32) (yu' ts' tc' tca' tp' tk' tl' tld' : Int32) (tv' tml' tmh' : Nat → Int32) (may' least' ic' li' no' : Nat → Int32) (ld' st' co' ca' lk' old' : Int32) (kept' klo' khi' : Nat → Int32) (km' : Int32) (kn' nums' : Nat → Int32), f_X5_send_b47 (b01 bl) (nI t) (nI x) sent fits (nI (gN g)) (nI (gK g)) (nI (gR g)) A I low high len far yu ts tc tca tp tk tl tld tv tml tmh = some (r, sent', fits', far', yu', ts', tc', tca', tp', tk', tl', tld', tv', tml', tmh') ∧ f_X6_send_b40 (b01 bl) (nI t) (nI x) w may least ic li no ld st co ca lk sent old kept klo khi km kn nums = some (r, may', least', ic', li', no', ld', st', co', ca', lk', sent', old', kept', klo', khi', km', kn', nums') ∧ LR (gK g) sent' fits' ts' tc' tca' tp' tk' tl' tld' tv' tml' tmh' old' kept' klo' khi' km' kn' nums' := by
  have hk := hg.2.2.1
  have hroom := hg.2.2.2.1
  have hA' : ∀ i, i < gK g → bt A i = gAl g i := fun i hi => hA.at hk hi
  have hI' : ∀ i, i < gK g → bt I i = gMp g i := fun i hi => hI.at hk hi
  obtain ⟨st1, co1, ca1, pl1, lk1, li1, ld1, vi1, ml1, mh1, far1, yu1, q1, q2⟩ := C_travel (bl := bl) hg.links hr hA' hI' hx ht hroom ts tc tca tp tk tl tld tv tml tmh far yu
  obtain ⟨may2, least2, ic2, li2, no2, ld2, st2, co2, ca2, lk2, r1, r2⟩ := M_run (bl := bl) hg.links hw hx ht hroom may least ic li no ld st co ca lk
  obtain ⟨i1, i2, i3, i4, i5, i6, i7, i8, i9, i10, i11⟩ := lend_inv (bl := bl) (room := gR g) hg.links hx ht
  obtain ⟨a1, a2, a3, a4, a5, a6, a7, a8, a9⟩ := q2
  obtain ⟨b1, b2, b3, b4, b5, b6, b7, b8⟩ := r2
  subst a1 a2 a3 a4 a5 a7 b4 b5 b6 b7 b8
  obtain ⟨kept', klo', khi', s1, s2⟩ := M_send70 (s := lend g bl (gR g) x t) (w := w) (may := may2) (least := least2) (ic := ic2) (li := li2) (no := no2) (st := nI (sSt (lend g bl (gR g) x t))) (co := nI (sCo (lend g bl (gR g) x t))) (ca := nI (sCa (lend g bl (gR g) x t))) (lk := nI (sLk (lend g bl (gR g) x t))) (sent := 1) (old := 0) (km := nI (sLd (lend g bl (gR g) x t))) (kn := kn) (nums := nums) hk hw (by omega) (fun j hj => ⟨b2 j hj, i9 j hj⟩) (sLd (lend g bl (gR g) x t)) 0 1000 kept klo khi (by omega) (by omega) (fun i hi => by omega)
  obtain ⟨kn', nums', u1, u2, u3, u4, u5, u6, u7, u8⟩ := M_send140 (w := w) (may := may2) (least := least2) (ic := ic2) (li := li2) (no := no2) (ld := nI (sLd (lend g bl (gR g) x t))) (co := nI (sCo (lend g bl (gR g) x t))) (ca := nI (sCa (lend g bl (gR g) x t))) (lk := nI (sLk (lend g bl (gR g) x t))) (sent := 1) (old := 0) (km := nI (sLd (lend g bl (gR g) x t))) (kept := kept') (klo := klo') (khi := khi') (nums := nums) i1 (sSt (lend g bl (gR g) x t) + 1) 0 1000 kn (by omega) (by omega) (fun i hi => by omega)
  unfold f_X5_send_b47 f_X6_send_b40
  rw [q1, Option.bind_some, c2, hw.2.2.1, r1, Option.bind_some]
  dsimp only
  rw [show f_X6_send_b70 1000 0 w may2 least2 ic2 li2 no2 (nI (sLd (lend g bl (gR g) x t))) (nI (sSt (lend g bl (gR g) x t))) (nI (sCo (lend g bl (gR g) x t))) (nI (sCa (lend g bl (gR g) x t))) (nI (sLk (lend g bl (gR g) x t))) 1 0 kept klo khi (nI (sLd (lend g bl (gR g) x t))) kn nums = _ from s1]
  rw [show f_X6_send_b140 1000 0 w may2 least2 ic2 li2 no2 (nI (sLd (lend g bl (gR g) x t))) (nI (sSt (lend g bl (gR g) x t))) (nI (sCo (lend g bl (gR g) x t))) (nI (sCa (lend g bl (gR g) x t))) (nI (sLk (lend g bl (gR g) x t))) 1 0 kept' klo' khi' (nI (sLd (lend g bl (gR g) x t))) kn nums = _ from u1]
  have hno : no2 (sSt (lend g bl (gR g) x t)) = nI (sPl (lend g bl (gR g) x t)) := by rw [b3 _ (Nat.le_refl _), i7]
  have hLR : LR (gK g) 1 1 (nI (sSt (lend g bl (gR g) x t))) (nI (sCo (lend g bl (gR g) x t))) (nI (sCa (lend g bl (gR g) x t))) (nI (sPl (lend g bl (gR g) x t))) (nI (sLk (lend g bl (gR g) x t))) li1 (nI (sLd (lend g bl (gR g) x t))) vi1 ml1 mh1 0 kept' klo' khi' (nI (sLd (lend g bl (gR g) x t))) kn' nums' := by
    refine Or.inr ⟨rfl, sSt (lend g bl (gR g) x t), sLd (lend g bl (gR g) x t), i1, by omega, rfl, rfl, rfl, u3, u4, u5, u6, by rw [u7, hno], u8, fun j hj => by rw [u2 j hj, b3 j hj, a8 j hj], fun j hj => by rw [(s2 j hj).2.1, (s2 j hj).2.2, (a9 j hj).1, (a9 j hj).2]; exact ⟨rfl, rfl⟩, Or.inr ⟨rfl, rfl, sCar (lend g bl (gR g) x t), sLi (lend g bl (gR g) x t), a6, i8, fun j hj => ⟨(s2 j hj).1, i9 j hj⟩⟩⟩
  unfold f_X0_hasArrived
  by_cases c : nI (sCa (lend g bl (gR g) x t)) = 0
  · rw [if_pos c, if_neg ne10, if_pos c]
    exact ⟨_, _, _, _, _, _, _, _, _, _, _, _, _, _, _, _, _, _, _, _, _, _, _, _, _, _, _, _, _, _, _, _, rfl, rfl, hLR⟩
  · rw [if_neg c, if_pos (show (0 : Int32) = 0 from rfl), if_neg c]
    exact ⟨_, _, _, _, _, _, _, _, _, _, _, _, _, _, _, _, _, _, _, _, _, _, _, _, _, _, _, _, _, _, _, _, rfl, rfl, hLR⟩
theorem S_send {g : AN} {A I : Int32} {low high len w : Nat → Int32} (hg : gOK g) (hr : CL low high len g) (hA : Msk A (gK g) (gAl g)) (hI : Msk I (gK g) (gMp g)) (hw : RM w g) {sent fits ts tc tca tp tk tl tld : Int32} {tv tml tmh : Nat → Int32} {old : Int32} {kept klo khi : Nat → Int32} {km : Int32} {kn nums : Nat → Int32} (hl : LR (gK g) sent fits ts tc tca tp tk tl tld tv tml tmh old kept klo khi km kn nums) (p1 p2 p3 : Int32) (far : Nat → Int32) (yu : Int32) (may least ic li no : Nat → Int32) (ld st co ca lk : Int32) :
    ∃ (r sent' fits' : Int32) (far' : Nat → Int32) (yu' ts' tc' tca' tp' tk' tl' tld' : Int32) (tv' tml' tmh' : Nat → Int32) (may' least' ic' li' no' : Nat → Int32) (ld' st' co' ca' lk' old' : Int32) (kept' klo' khi' : Nat → Int32) (km' : Int32) (kn' nums' : Nat → Int32), f_X5_send p1 p2 p3 sent fits (nI (gN g)) (nI (gK g)) (nI (gR g)) A I low high len far yu ts tc tca tp tk tl tld tv tml tmh = some (r, sent', fits', far', yu', ts', tc', tca', tp', tk', tl', tld', tv', tml', tmh') ∧ f_X6_send p1 p2 p3 w may least ic li no ld st co ca lk sent old kept klo khi km kn nums = some (r, may', least', ic', li', no', ld', st', co', ca', lk', sent', old', kept', klo', khi', km', kn', nums') ∧ LR (gK g) sent' fits' ts' tc' tca' tp' tk' tl' tld' tv' tml' tmh' old' kept' klo' khi' km' kn' nums' := by
  unfold f_X5_send f_X6_send
  rcases chk_node hg.2.1 hw p1 with ⟨e1, e2⟩ | ⟨x, hx, rfl, e1, e2⟩
  · rw [e1, if_pos rfl, e2, Option.bind_some, if_pos rfl]; exact ⟨_, _, _, _, _, _, _, _, _, _, _, _, _, _, _, _, _, _, _, _, _, _, _, _, _, _, _, _, _, _, _, _, rfl, rfl, hl⟩
  rw [e1, if_neg ne10, e2, Option.bind_some, if_neg ne10]
  rcases chk_node hg.2.1 hw p2 with ⟨e3, e4⟩ | ⟨t, ht, rfl, e3, e4⟩
  · rw [e3, if_pos rfl, e4, Option.bind_some, if_pos rfl]; exact ⟨_, _, _, _, _, _, _, _, _, _, _, _, _, _, _, _, _, _, _, _, _, _, _, _, _, _, _, _, _, _, _, _, rfl, rfl, hl⟩
  rw [e3, if_neg ne10, e4, Option.bind_some, if_neg ne10]
  rcases chk_flag p3 with ⟨e5, e6⟩ | ⟨b, rfl, e5, e6⟩
  · rw [e5, e6, if_pos rfl, if_pos rfl]; exact ⟨_, _, _, _, _, _, _, _, _, _, _, _, _, _, _, _, _, _, _, _, _, _, _, _, _, _, _, _, _, _, _, _, rfl, rfl, hl⟩
  · rw [e5, e6, if_neg ne10, if_neg ne10, b01_eq1, b01_eq1]
    cases b with
    | true => rw [if_pos rfl, if_pos rfl]; exact S_send_b hg hr hA hI hw true hx ht far yu may least ic li no ld st co ca lk
    | false => rw [if_neg (by decide), if_neg (by decide)]; exact S_send_b hg hr hA hI hw false hx ht far yu may least ic li no ld st co ca lk
/-! undo -/
theorem M_undo_b {past : Nat → Int32} {u : Nat} {old : Int32} (hu : u < 8) : ∀ (m k fuel : Nat) (w : Nat → Int32), k + m = 93 → m < fuel → (∀ x, x < k → w x = past (93 * u + x)) → ∃ w' : Nat → Int32, f_X6_undo_b22 fuel (nI k) w past (nI u) old = some (nI u, w', nI u, 1) ∧ ∀ x, x < 93 → w' x = past (93 * u + x)
  | 0, k, fuel, w, h1, h2, h => by
    obtain ⟨n, rfl⟩ : ∃ n, fuel = n + 1 := ⟨fuel - 1, by omega⟩
    rw [f_X6_undo_b22, l93, t_le (by omega) (by omega), if_pos (by omega)]
    exact ⟨w, rfl, fun x hx => h x (by omega)⟩
  | m + 1, k, fuel, w, h1, h2, h => by
    obtain ⟨n, rfl⟩ : ∃ n, fuel = n + 1 := ⟨fuel - 1, by omega⟩
    rw [f_X6_undo_b22, l93, t_le (by omega) (by omega), if_neg (by omega), n_mul, n_add, t_inb (by omega), if_pos (show 93 * u + k < 744 by omega), t_inb (by omega), if_pos (show k < 93 by omega), n_cl (by omega), n_cl (by omega), nI_1]
    refine M_undo_b hu m (k + 1) n _ (by omega) (by omega) (fun x hx => ?_)
    by_cases c : x = k
    · subst c; rw [upd_eq]
    · rw [upd_ne c]; exact h x (by omega)
theorem S_undo {g : AN} {v : NV} {w past : Nat → Int32} {pi : Nat → Nat} {und fits old : Int32} {hC : Nat → NV} (hg : gOK g) (hr : RC v g) (hw : RM w g) (hh : HR pi und hC past) :
    ∃ (r und' fits' : Int32) (v' : NV) (w' : Nat → Int32) (old' : Int32) (g' : AN), f_X5_undo pi und fits v.1 v.2.1 v.2.2.1 v.2.2.2.1 v.2.2.2.2.1 v.2.2.2.2.2.1 v.2.2.2.2.2.2.1 v.2.2.2.2.2.2.2 hC = some (r, und', fits', v') ∧ f_X6_undo w past und old = some (r, w', und', old') ∧ gOK g' ∧ RC v' g' ∧ RM w' g' ∧ HR pi und' hC past ∧ FT fits old (gK g) fits' old' (gK g') := by
  obtain ⟨hp, u, hu, rfl, h⟩ := id hh
  unfold f_X5_undo f_X6_undo
  rw [l0, t_le (by omega) (by omega), t_eq (by omega) (by omega)]
  by_cases c : u = 0
  · rw [if_pos (show u ≤ 0 by omega), if_pos c]
    exact ⟨_, _, _, v, _, _, g, rfl, rfl, hg, hr, hw, hh, Or.inr ⟨rfl, rfl, rfl⟩⟩
  rw [if_neg (show ¬ u ≤ 0 by omega), if_neg c, l8, t_le (by omega) (by omega), if_pos hu, l1, n_sub (by omega), t_inb (by omega), if_pos (show u - 1 < 8 by omega), n_cl (by omega)]
  obtain ⟨g', k1, k2, k3⟩ := h (u - 1) (by omega)
  obtain ⟨w', m1, m2⟩ := M_undo_b (past := past) (old := old) (show u - 1 < 8 by omega) 93 0 1000 w (by omega) (by omega) (fun x hx => by omega)
  have hP := hp.1 (u - 1) (by omega)
  have hh' : HR pi (nI (u - 1)) hC past := ⟨hp, u - 1, by omega, rfl, fun j hj => h j (by omega)⟩
  obtain ⟨v', e, -, hv⟩ := C_copy v (hC (pi (u - 1)))
  rw [m1]
  have fin : ∃ (r und' fits' : Int32) (v'' : NV) (w'' : Nat → Int32) (old' : Int32) (g'' : AN), some (nI (u - 1), nI (u - 1), nI 0, v') = some (r, und', fits', v'') ∧ some (nI (u - 1), w', nI (u - 1), nI 1) = some (r, w'', und', old') ∧ gOK g'' ∧ RC v'' g'' ∧ RM w'' g'' ∧ HR pi und' hC past ∧ FT fits old (gK g) fits' old' (gK g'') := ⟨_, _, _, _, _, _, g', rfl, rfl, k1, hv g' k1.2.2.1 k2, RM.congr k1.2.2.1 m2 k3, hh', Or.inl ⟨rfl, rfl⟩⟩
  generalize pi (u - 1) = P at *
  rcases Nat.lt_or_ge P 1 with c0 | c0
  · have : P = 0 := by omega
    subst this
    rw [if_pos (show (0 : Nat) = 0 from rfl), e]; exact fin
  rw [if_neg (show ¬ P = 0 by omega)]
  rcases Nat.lt_or_ge P 2 with c1 | c1
  · have : P = 1 := by omega
    subst this
    rw [if_pos (show (1 : Nat) = 1 from rfl), e]; exact fin
  rw [if_neg (show ¬ P = 1 by omega)]
  rcases Nat.lt_or_ge P 3 with c2 | c2
  · have : P = 2 := by omega
    subst this
    rw [if_pos (show (2 : Nat) = 2 from rfl), e]; exact fin
  rw [if_neg (show ¬ P = 2 by omega)]
  rcases Nat.lt_or_ge P 4 with c3 | c3
  · have : P = 3 := by omega
    subst this
    rw [if_pos (show (3 : Nat) = 3 from rfl), e]; exact fin
  rw [if_neg (show ¬ P = 3 by omega)]
  rcases Nat.lt_or_ge P 5 with c4 | c4
  · have : P = 4 := by omega
    subst this
    rw [if_pos (show (4 : Nat) = 4 from rfl), e]; exact fin
  rw [if_neg (show ¬ P = 4 by omega)]
  rcases Nat.lt_or_ge P 6 with c5 | c5
  · have : P = 5 := by omega
    subst this
    rw [if_pos (show (5 : Nat) = 5 from rfl), e]; exact fin
  rw [if_neg (show ¬ P = 5 by omega)]
  rcases Nat.lt_or_ge P 7 with c6 | c6
  · have : P = 6 := by omega
    subst this
    rw [if_pos (show (6 : Nat) = 6 from rfl), e]; exact fin
  rw [if_neg (show ¬ P = 6 by omega)]
  have : P = 7 := by omega
  subst this
  rw [if_pos (show (7 : Nat) = 7 from rfl), e]; exact fin
/-! images -/
def IR (kp : Nat → Int32) (iC : Nat → NV) (images : Nat → Int32) (filled : Int32) : Prop := ∃ F, F < 4 ∧ filled = nI F ∧ ∀ j, j < 2 → kp j = b01 (F.testBit j) ∧ (F.testBit j = true → ∃ g, gOK g ∧ RC (iC j) g ∧ RM (fun k => images (93 * j + k)) g)
theorem M_isImage (p : Int32) : (f_X6_isImage p = some 0 ∧ (p < 0 ∨ (1 : Int32) < p)) ∨ ∃ j, j < 2 ∧ p = nI j ∧ f_X6_isImage p = some 1 := by
  unfold f_X6_isImage
  rcases chk_in p (a := 0) (b := 1) (by omega) (by omega) with ⟨e, d⟩ | ⟨j, -, h1, rfl, e⟩
  · rw [show f_X6_isIn p 0 1 = 0 from e, if_pos isb_0]; exact Or.inl ⟨rfl, d⟩
  · rw [show f_X6_isIn (nI j) 0 1 = 1 from e, if_pos isb_1]; exact Or.inr ⟨j, by omega, rfl, rfl⟩
theorem fill_or : ∀ F, F < 4 → ∀ j, j < 2 → nI F ||| ((1 : Int32) <<< (nI j &&& 31)) = nI (F ||| 2 ^ j) := by decide +kernel
theorem fill_lt : ∀ F, F < 4 → ∀ j, j < 2 → (F ||| 2 ^ j < 4 ∧ (F ||| 2 ^ j).testBit j = true ∧ ∀ i, i < 2 → i ≠ j → (F ||| 2 ^ j).testBit i = F.testBit i) := by decide +kernel
theorem fill_at : ∀ F, F < 4 → ∀ j, j < 2 → (nI F >>> (nI j &&& (31 : Int32))) &&& (1 : Int32) = b01 (F.testBit j) := by decide +kernel
theorem M_keep_b {w : Nat → Int32} {filled : Int32} {j : Nat} (hj : j < 2) : ∀ (m k fuel : Nat) (im : Nat → Int32), k + m = 93 → m < fuel → ∃ im' : Nat → Int32, f_X6_keep_b11 fuel (nI j) (nI k) w im filled = some (w 1, im', filled ||| ((1 : Int32) <<< (nI j &&& 31))) ∧ ∀ x, im' x = if 93 * j + k ≤ x ∧ x < 93 * j + 93 then w (x - 93 * j) else im x
  | 0, k, fuel, im, h1, h2 => by
    obtain ⟨n, rfl⟩ : ∃ n, fuel = n + 1 := ⟨fuel - 1, by omega⟩
    rw [f_X6_keep_b11, l93, t_le (by omega) (by omega), if_pos (by omega), c1]
    exact ⟨im, rfl, fun x => by rw [if_neg (by omega)]⟩
  | m + 1, k, fuel, im, h1, h2 => by
    obtain ⟨n, rfl⟩ : ∃ n, fuel = n + 1 := ⟨fuel - 1, by omega⟩
    rw [f_X6_keep_b11, l93, t_le (by omega) (by omega), if_neg (by omega), n_mul, n_add, t_inb (by omega), if_pos (show k < 93 by omega), t_inb (by omega), if_pos (show 93 * j + k < 186 by omega), n_cl (by omega), n_cl (by omega), nI_1]
    obtain ⟨im', e, h⟩ := M_keep_b (w := w) (filled := filled) hj m (k + 1) n (upd im (93 * j + k) (w k)) (by omega) (by omega)
    refine ⟨im', e, fun x => ?_⟩
    rw [h x]
    by_cases c : x = 93 * j + k
    · subst c
      rw [if_neg (by omega), if_pos (by omega), upd_eq, show 93 * j + k - 93 * j = k by omega]
    · by_cases d : 93 * j + k ≤ x ∧ x < 93 * j + 93
      · rw [if_pos (by omega), if_pos d]
      · rw [if_neg (by omega), if_neg d, upd_ne c]
theorem S_keep {g : AN} {v : NV} {w : Nat → Int32} {kp : Nat → Int32} {iC : Nat → NV} {im : Nat → Int32} {filled : Int32} (hg : gOK g) (hr : RC v g) (hw : RM w g) (hi : IR kp iC im filled) (p1 : Int32) :
    ∃ (r : Int32) (kp' : Nat → Int32) (iC' : Nat → NV) (im' : Nat → Int32) (filled' : Int32), f_X5_keep p1 kp v.1 v.2.1 v.2.2.1 v.2.2.2.1 v.2.2.2.2.1 v.2.2.2.2.2.1 v.2.2.2.2.2.2.1 v.2.2.2.2.2.2.2 iC = some (r, kp', iC') ∧ f_X6_keep p1 w im filled = some (r, im', filled') ∧ IR kp' iC' im' filled' := by
  have hk := hg.2.2.1
  unfold f_X5_keep f_X6_keep
  rcases M_isImage p1 with ⟨e, d⟩ | ⟨j, hj, rfl, e⟩
  · rw [e, Option.bind_some, if_pos rfl]
    by_cases q : p1 < 0
    · rw [if_pos q]; exact ⟨_, _, _, _, _, rfl, rfl, hi⟩
    · have q2 : (1 : Int32) < p1 := by
        rcases d with d | d
        · exact absurd d q
        · exact d
      rw [if_neg q, if_neg (show ¬ p1 < 2 by
        rw [i_lt] at q2 ⊢
        have a : (1 : Int32).toInt = 1 := by decide
        have b : (2 : Int32).toInt = 2 := by decide
        omega)]
      exact ⟨_, _, _, _, _, rfl, rfl, hi⟩
  rw [e, Option.bind_some, if_neg ne10, if_neg (n_nneg (by omega)), if_pos (show nI j < 2 by rw [l2, n_lt (by omega) (by omega)]; omega), t_inb (by omega), if_pos (show j < 2 by omega), n_cl (by omega)]
  obtain ⟨F, hF, rfl, hf⟩ := hi
  obtain ⟨im', m1, m2⟩ := M_keep_b (w := w) (filled := nI F) hj 93 0 1000 im (by omega) (by omega)
  obtain ⟨f1, f2, f3⟩ := fill_lt F hF j hj
  obtain ⟨v', c1', -, hv⟩ := C_copy (iC j) v
  rw [show f_X6_keep_b11 1000 (nI j) 0 w im (nI F) = _ from m1, fill_or F hF j hj, hw.2.1, ← hr.2.1]
  have fin : IR (upd kp j 1) (va_up iC j v') im' (nI (F ||| 2 ^ j)) := by
    refine ⟨F ||| 2 ^ j, f1, rfl, fun i hi => ?_⟩
    by_cases c : i = j
    · subst c
      rw [upd_eq, up_eq, f2]
      refine ⟨rfl, fun _ => ⟨g, hg, hv g hk hr, RM.congr hk (fun k hk => ?_) hw⟩⟩
      show im' (93 * i + k) = w k
      rw [m2, if_pos (by omega), show 93 * i + k - 93 * i = k by omega]
    · rw [upd_ne c, up_ne c, f3 i hi c]
      obtain ⟨z1, z2⟩ := hf i hi
      refine ⟨z1, fun q => ?_⟩
      obtain ⟨g', y1, y2, y3⟩ := z2 q
      refine ⟨g', y1, y2, RM.congr y1.2.2.1 (fun k hk => ?_) y3⟩
      show im' (93 * i + k) = im (93 * i + k)
      rw [m2, if_neg (by omega)]
  rcases Nat.lt_or_ge j 1 with c | c
  · have : j = 0 := by omega
    subst this
    rw [if_pos (show (0 : Nat) = 0 from rfl), c1', Option.bind_some]
    exact ⟨_, _, _, _, _, rfl, rfl, fin⟩
  · have : j = 1 := by omega
    subst this
    rw [if_neg (show ¬ (1 : Nat) = 0 by omega), if_pos (show (1 : Nat) = 1 from rfl), c1', Option.bind_some]
    exact ⟨_, _, _, _, _, rfl, rfl, fin⟩
theorem M_back_b {im past : Nat → Int32} {pm filled old : Int32} {j : Nat} (hj : j < 2) : ∀ (m k fuel : Nat) (w : Nat → Int32), k + m = 93 → m < fuel → (∀ x, x < k → w x = im (93 * j + x)) → ∃ w' : Nat → Int32, f_X6_back_b29 fuel (nI j) (nI k) w past pm im filled old = some (w' 1, w', past, pm, 1) ∧ ∀ x, x < 93 → w' x = im (93 * j + x)
  | 0, k, fuel, w, h1, h2, h => by
    obtain ⟨n, rfl⟩ : ∃ n, fuel = n + 1 := ⟨fuel - 1, by omega⟩
    rw [f_X6_back_b29, l93, t_le (by omega) (by omega), if_pos (by omega), c1]
    exact ⟨w, rfl, fun x hx => h x (by omega)⟩
  | m + 1, k, fuel, w, h1, h2, h => by
    obtain ⟨n, rfl⟩ : ∃ n, fuel = n + 1 := ⟨fuel - 1, by omega⟩
    rw [f_X6_back_b29, l93, t_le (by omega) (by omega), if_neg (by omega), n_mul, n_add, t_inb (by omega), if_pos (show 93 * j + k < 186 by omega), t_inb (by omega), if_pos (show k < 93 by omega), n_cl (by omega), n_cl (by omega), nI_1]
    refine M_back_b hj m (k + 1) n _ (by omega) (by omega) (fun x hx => ?_)
    by_cases c : x = k
    · subst c; rw [upd_eq]
    · rw [upd_ne c]; exact h x (by omega)
theorem S_back {g : AN} {v : NV} {w past : Nat → Int32} {pi : Nat → Nat} {und fits old : Int32} {hC : Nat → NV} {kp : Nat → Int32} {iC : Nat → NV} {im : Nat → Int32} {filled : Int32} (hg : gOK g) (hr : RC v g) (hw : RM w g) (hh : HR pi und hC past) (hi : IR kp iC im filled) (p1 : Int32) :
    ∃ (r : Int32) (pi' : Nat → Nat) (und' fits' : Int32) (v' : NV) (hC' : Nat → NV) (w' past' : Nat → Int32) (old' : Int32) (g' : AN), f_X5_back p1 pi und kp fits v.1 v.2.1 v.2.2.1 v.2.2.2.1 v.2.2.2.2.1 v.2.2.2.2.2.1 v.2.2.2.2.2.2.1 v.2.2.2.2.2.2.2 hC iC = some (r, pi', und', fits', v'.1, v'.2.1, v'.2.2.1, v'.2.2.2.1, v'.2.2.2.2.1, v'.2.2.2.2.2.1, v'.2.2.2.2.2.2.1, v'.2.2.2.2.2.2.2, hC') ∧ f_X6_back p1 w past und im filled old = some (r, w', past', und', old') ∧ gOK g' ∧ RC v' g' ∧ RM w' g' ∧ HR pi' und' hC' past' ∧ FT fits old (gK g) fits' old' (gK g') := by
  unfold f_X5_back f_X6_back
  rcases M_isImage p1 with ⟨e, d⟩ | ⟨j, hj, rfl, e⟩
  · rw [e, Option.bind_some, if_pos rfl]
    by_cases q : p1 < 0
    · rw [if_pos q]; exact ⟨_, _, _, _, v, _, _, _, _, g, rfl, rfl, hg, hr, hw, hh, Or.inr ⟨rfl, rfl, rfl⟩⟩
    · have q2 : (1 : Int32) < p1 := by
        rcases d with d | d
        · exact absurd d q
        · exact d
      rw [if_neg q, if_neg (show ¬ p1 < 2 by
        rw [i_lt] at q2 ⊢
        have a : (1 : Int32).toInt = 1 := by decide
        have b : (2 : Int32).toInt = 2 := by decide
        omega)]
      exact ⟨_, _, _, _, v, _, _, _, _, g, rfl, rfl, hg, hr, hw, hh, Or.inr ⟨rfl, rfl, rfl⟩⟩
  obtain ⟨F, hF, rfl, hf⟩ := hi
  obtain ⟨z1, z2⟩ := hf j hj
  rw [e, Option.bind_some, if_neg ne10, if_neg (n_nneg (by omega)), if_pos (show nI j < 2 by rw [l2, n_lt (by omega) (by omega)]; omega), t_inb (by omega), if_pos (show j < 2 by omega), n_cl (by omega), fill_at F hF j hj, z1, b01_eq0, b01_eq0]
  by_cases c : ¬ F.testBit j = true
  · rw [if_neg c, if_neg c]; exact ⟨_, _, _, _, v, _, _, _, _, g, rfl, rfl, hg, hr, hw, hh, Or.inr ⟨rfl, rfl, rfl⟩⟩
  have c := Classical.not_not.mp c
  obtain ⟨g', y1, y2, y3⟩ := z2 c
  obtain ⟨pi', und', hC', past', k1, k2, k3⟩ := S_record hh hg hr hw
  obtain ⟨w', m1, m2⟩ := M_back_b (im := im) (past := past') (pm := und') (filled := nI F) (old := old) hj 93 0 1000 w (by omega) (by omega) (fun x hx => by omega)
  obtain ⟨v', c1', c2', hv⟩ := C_copy v (iC j)
  have hw' : RM w' g' := RM.congr y1.2.2.1 m2 y3
  rw [if_pos c, if_pos c, k1, Option.bind_some, M_remember, k2, Option.bind_some]
  dsimp only
  rw [show f_X6_back_b29 1000 (nI j) 0 w past' und' im (nI F) old = _ from m1, hw'.2.1]
  have hlk : v'.2.1 = nI (gK g') := by rw [c2']; exact y2.2.1
  rcases Nat.lt_or_ge j 1 with q | q
  · have : j = 0 := by omega
    subst this
    rw [if_pos (show (0 : Nat) = 0 from rfl), c1', Option.bind_some, ← hlk]
    exact ⟨_, _, _, _, v', _, _, _, _, g', rfl, rfl, y1, hv g' y1.2.2.1 y2, hw', k3, Or.inl ⟨rfl, rfl⟩⟩
  · have : j = 1 := by omega
    subst this
    rw [if_neg (show ¬ (1 : Nat) = 0 by omega), if_pos (show (1 : Nat) = 1 from rfl), c1', Option.bind_some, ← hlk]
    exact ⟨_, _, _, _, v', _, _, _, _, g', rfl, rfl, y1, hv g' y1.2.2.1 y2, hw', k3, Or.inl ⟨rfl, rfl⟩⟩
