/-! write, wipe, fault -/
def TR (codes : Nat → Int32) (size : Int32) (text : Nat → Int32) (length : Int32) : Prop := ∃ (n : Nat) (T : Nat → Nat), TX codes T n ∧ TX text T n ∧ size = nI n ∧ length = nI n
theorem TX.add {c : Nat → Int32} {T : Nat → Nat} {n x : Nat} (h : TX c T n) (hn : n < 80) (h1 : 32 ≤ x) (h2 : x ≤ 126) : TX (upd c n (nI x)) (va_up T n x) (n + 1) := by
  refine ⟨by omega, fun j hj => ?_⟩
  by_cases e : j = n
  · subst e; rw [upd_eq, up_eq]; exact ⟨rfl, h1, h2⟩
  · rw [upd_ne e, up_ne e]; exact h.2 j (by omega)
theorem S_write {codes text : Nat → Int32} {size length : Int32} (h : TR codes size text length) (p1 : Int32) : ∃ (r : Int32) (codes' text' : Nat → Int32) (size' length' : Int32), f_X5_write p1 codes size = some (r, codes', size') ∧ f_X6_write p1 text length = some (r, text', length') ∧ TR codes' size' text' length' := by
  obtain ⟨n, T, h1, h2, rfl, rfl⟩ := id h
  have hn := h1.1
  unfold f_X5_write f_X6_write
  rcases chk_in p1 (a := 32) (b := 126) (by omega) (by omega) with ⟨e, d⟩ | ⟨x, hx1, hx2, rfl, e⟩
  · rw [show f_X6_isIn p1 32 126 = 0 from e, if_pos (show (0 : Int32) = 0 from rfl)]
    by_cases q : p1 < 32
    · rw [if_pos q]; exact ⟨_, _, _, _, _, rfl, rfl, h⟩
    · have q2 : (126 : Int32) < p1 := by
        rcases d with d | d
        · exact absurd d q
        · exact d
      rw [if_neg q, if_neg (show ¬ p1 ≤ 126 by rw [i_lt] at q2; rw [i_le]; omega)]
      exact ⟨_, _, _, _, _, rfl, rfl, h⟩
  rw [show f_X6_isIn (nI x) 32 126 = 1 from e, if_neg ne10, if_neg (show ¬ nI x < 32 by rw [l32, n_lt (by omega) (by omega)]; omega), if_pos (show nI x ≤ 126 by rw [show (126 : Int32) = nI 126 from rfl, n_le (by omega) (by omega)]; omega), l80, t_lt (by omega) (by omega), t_eq (by omega) (by omega)]
  by_cases c : n < 80
  · unfold f_X3_append
    rw [if_pos c, if_neg (show ¬ n = 80 by omega), l80, t_le (by omega) (by omega), if_neg (show ¬ 80 ≤ n by omega), t_inb (by omega), if_pos c, n_cl (by omega), nI_1, Option.bind_some, t_inb (by omega), if_pos c]
    exact ⟨_, _, _, _, _, rfl, rfl, n + 1, va_up T n x, h1.add c hx1 hx2, h2.add c hx1 hx2, rfl, rfl⟩
  · rw [if_neg c, if_pos (show n = 80 by omega)]
    exact ⟨_, _, _, _, _, rfl, rfl, h⟩
theorem S_wipe {codes text : Nat → Int32} {size length : Int32} (h : TR codes size text length) : (f_X5_wipe size).1 = (f_X6_wipe length).1 ∧ TR codes (f_X5_wipe size).2 text (f_X6_wipe length).2 := by
  obtain ⟨n, T, h1, h2, rfl, rfl⟩ := h
  exact ⟨rfl, 0, T, ⟨by omega, fun j hj => absurd hj (Nat.not_lt_zero _)⟩, ⟨by omega, fun j hj => absurd hj (Nat.not_lt_zero _)⟩, rfl, rfl⟩
/-- where the reading stands after i commands -/
def ep (T : Nat → Nat) (n : Nat) : Nat → Nat
  | 0 => 0
  | i + 1 => (pcm T n (ep T n i)).2.2.2.2.2
theorem ep_b {T : Nat → Nat} {n : Nat} : ∀ i, (∀ j, j < i → (pcm T n (ep T n j)).1 = 2) → i ≤ ep T n i ∧ ep T n i ≤ n
  | 0, _ => ⟨Nat.le_refl _, Nat.zero_le _⟩
  | i + 1, h => by
    have ih := ep_b i (fun j hj => h j (by omega))
    have := (pcm_ok (T := T) ih.2).2.2 (h i (by omega))
    show i + 1 ≤ (pcm T n (ep T n i)).2.2.2.2.2 ∧ (pcm T n (ep T n i)).2.2.2.2.2 ≤ n
    omega
theorem pcm_n {T : Nat → Nat} {n : Nat} : (pcm T n n).1 = 0 := by
  unfold pcm
  rw [if_pos]
  show wsA T n n = weA T n (wsA T n n)
  rw [wsA_n, weA_n]
theorem CS.congr {cs cs' : Nat → Int32} {m : Nat} {q : PC} (h : CS cs m q) (e : ∀ x, x < 4 * (m + 1) → cs' x = cs x) : CS cs' m q := by
  obtain ⟨a, b, c, d⟩ := h
  refine ⟨by rw [e _ (by omega)]; exact a, fun z => ?_, fun z => by rw [e _ (by omega)]; exact c z, fun z => by rw [e _ (by omega)]; exact d z⟩
  rw [e _ (by omega), e _ (by omega)]
  exact b z
theorem M_read_b {c : Nat → Int32} {T : Nat → Nat} {n : Nat} (h : TX c T n) : ∀ (r i fuel p : Nat) (x2' : Int32) (cs : Nat → Int32), ep T n i + r = n → (∀ j, j < i → (pcm T n (ep T n j)).1 = 2) → p ≤ n → n - p < fuel → wsA T n p = wsA T n (ep T n i) → ∃ (z : Int32) (cs' : Nat → Int32) (N : Nat), f_X6_read_b12 fuel 0 x2' (nI p) c (nI n) cs (nI i) = some (z, cs', nI N) ∧ N ≤ 80 ∧ i ≤ N ∧ (∀ j, j < N → (pcm T n (ep T n j)).1 = 2) ∧ (((pcm T n (ep T n N)).1 = 0 ∧ z = -9 ∧ (∀ j, i ≤ j → j < N → CS cs' j (pcm T n (ep T n j))) ∧ (∀ x, x < 4 * i → cs' x = cs x)) ∨ ((pcm T n (ep T n N)).1 = 1 ∧ N < 80 ∧ z = nI (pcm T n (ep T n N)).2.2.2.2.2)) := by
  intro r
  induction r using Nat.strongRecOn with
  | _ r ih =>
    intro i fuel p x2' cs hr hj hp hf hw
    have hn := h.1
    have hb := ep_b i hj
    by_cases c80 : i = 80
    · have en : ep T n i = n := by omega
      rw [en, wsA_n] at hw
      rw [M_noword h hp hf hw, if_pos rfl]
      exact ⟨-9, cs, i, rfl, by omega, Nat.le_refl _, hj, Or.inl ⟨by rw [en]; exact pcm_n, rfl, fun j h1 h2 => by omega, fun _ _ => rfl⟩⟩
    have hm : i < 80 := by omega
    rcases M_cmd (x2' := x2') (cs := cs) h hp hf hm hw with ⟨a1, cs', a2, a3⟩ | ⟨a1, cs', a2⟩ | ⟨a1, f', p', cs', b1, b2, b3, b4, b5, b6⟩
    · exact ⟨-9, cs', i, a2, by omega, Nat.le_refl _, hj, Or.inl ⟨a1, rfl, fun j h1 h2 => by omega, a3⟩⟩
    · exact ⟨_, cs', i, a2, by omega, Nat.le_refl _, hj, Or.inr ⟨a1, hm, rfl⟩⟩
    · have hj' : ∀ j, j < i + 1 → (pcm T n (ep T n j)).1 = 2 := fun j hjl => by
        by_cases e : j = i
        · rw [e]; exact a1
        · exact hj j (by omega)
      have hb' := ep_b (i + 1) hj'
      have hstep := (pcm_ok (T := T) hb.2).2.2 a1
      have hep : ep T n (i + 1) = (pcm T n (ep T n i)).2.2.2.2.2 := rfl
      obtain ⟨z, cs2, N, k1, k2, k3, k4, k5⟩ := ih (n - ep T n (i + 1)) (by omega) (i + 1) f' p' (nI (pcm T n (ep T n i)).2.1) cs' (by omega) hj' b1 b2 b3
      refine ⟨z, cs2, N, by rw [b4]; exact k1, k2, by omega, k4, ?_⟩
      rcases k5 with ⟨y1, y2, y3, y4⟩ | y
      · refine Or.inl ⟨y1, y2, fun j j1 j2 => ?_, fun x hx => by rw [y4 x (by omega), b5 x hx]⟩
        by_cases e : j = i
        · rw [e]; exact b6.congr y4
        · exact y3 j (by omega) j2
      · exact Or.inr y
/-- the whole text read: how many commands, and how it ends -/
def RD (T : Nat → Nat) (n N : Nat) : Prop := N ≤ 80 ∧ (∀ j, j < N → (pcm T n (ep T n j)).1 = 2) ∧ ((pcm T n (ep T n N)).1 = 0 ∨ ((pcm T n (ep T n N)).1 = 1 ∧ N < 80))
def rdz (T : Nat → Nat) (n N : Nat) : Int32 := if (pcm T n (ep T n N)).1 = 0 then -9 else nI (pcm T n (ep T n N)).2.2.2.2.2
theorem M_read {c : Nat → Int32} {T : Nat → Nat} {n : Nat} (h : TX c T n) (cs : Nat → Int32) (cm : Int32) : ∃ (cs' : Nat → Int32) (N : Nat), f_X6_read c (nI n) cs cm = some (rdz T n N, cs', nI N) ∧ RD T n N ∧ ((pcm T n (ep T n N)).1 = 0 → ∀ j, j < N → CS cs' j (pcm T n (ep T n j))) := by
  obtain ⟨z, cs', N, k1, k2, k3, k4, k5⟩ := M_read_b h n 0 1000 0 (-9) cs (by show 0 + n = n; omega) (fun j hj => absurd hj (Nat.not_lt_zero _)) (Nat.zero_le _) (by have := h.1; omega) rfl
  refine ⟨cs', N, ?_, ⟨k2, k4, ?_⟩, ?_⟩
  · unfold f_X6_read
    rw [show f_X6_read_b12 1000 0 (-9) 0 c (nI n) cs 0 = _ from k1]
    unfold rdz
    rcases k5 with ⟨y1, y2, -⟩ | ⟨y1, y2, y3⟩
    · rw [if_pos y1, y2]
    · rw [if_neg (by rw [y1]; decide), y3]
  · rcases k5 with ⟨y1, -⟩ | ⟨y1, y2, -⟩
    · exact Or.inl y1
    · exact Or.inr ⟨y1, y2⟩
  · intro q j hj
    rcases k5 with ⟨-, -, y3, -⟩ | ⟨y1, -⟩
    · exact y3 j (Nat.zero_le _) hj
    · rw [q] at y1; cases y1
theorem C_fault_b {c : Nat → Int32} {T : Nat → Nat} {n N : Nat} (h : TX c T n) (hR : RD T n N) : ∀ (m i fuel : Nat) (ws kd fi se dg : Int32), i + m = N → m + 1 < fuel → ∃ fa' ws' we' kd' fi' se' dg' : Int32, f_X5_fault_b11 fuel 1 (nI i) c (nI n) (-9) ws (nI (ep T n i)) kd fi se dg = some (rdz T n N, fa', ws', we', kd', fi', se', dg')
  | 0, i, fuel, ws, kd, fi, se, dg, h1, h2 => by
    obtain ⟨k, rfl⟩ : ∃ k, fuel = k + 2 := ⟨fuel - 2, by omega⟩
    have hn := h.1
    obtain ⟨r1, r2, r3⟩ := hR
    have hi : i = N := by omega
    subst hi
    have hb := ep_b i r2
    rw [f_X5_fault_b11, l80, t_le (by omega) (by omega)]
    by_cases c80 : 80 ≤ i
    · have : (pcm T n (ep T n i)).1 = 0 := by
        rcases r3 with r3 | r3
        · exact r3
        · omega
      rw [if_pos c80]
      unfold rdz
      rw [if_pos this]
      exact ⟨_, _, _, _, _, _, _, rfl⟩
    rw [if_neg c80, if_neg ne10]
    obtain ⟨r, fa', ws', we', kd', fi', se', dg', q1, q2⟩ := C_readCommand (fa := -9) (z := ws) (kd := kd) (fi := fi) (se := se) (dg := dg) h hb.2
    have hr0 : r = 0 ∧ fa' = rdz T n i := by
      unfold rdz
      rcases q2 with ⟨y1, y2, y3⟩ | ⟨y1, y2, y3⟩ | ⟨y1, -⟩
      · rw [if_pos y1]; exact ⟨y2, y3⟩
      · rw [if_neg (by rw [y1]; decide)]; exact ⟨y2, y3⟩
      · rcases r3 with r3 | r3
        · rw [r3] at y1; cases y1
        · rw [r3.1] at y1; cases y1
    rw [q1, Option.bind_some]
    dsimp only
    rw [f_X5_fault_b11, nI_1, hr0.1, hr0.2, if_pos (show (0 : Int32) = 0 from rfl)]
    by_cases c2 : (80 : Int32) ≤ nI (i + 1)
    · rw [if_pos c2]; exact ⟨_, _, _, _, _, _, _, rfl⟩
    · rw [if_neg c2]; exact ⟨_, _, _, _, _, _, _, rfl⟩
  | m + 1, i, fuel, ws, kd, fi, se, dg, h1, h2 => by
    obtain ⟨k, rfl⟩ : ∃ k, fuel = k + 1 := ⟨fuel - 1, by omega⟩
    have hn := h.1
    obtain ⟨r1, r2, r3⟩ := id hR
    have hb := ep_b i (fun j hj => r2 j (by omega))
    rw [f_X5_fault_b11, l80, t_le (by omega) (by omega), if_neg (by omega), if_neg ne10]
    obtain ⟨r, fa', ws', we', kd', fi', se', dg', q1, q2⟩ := C_readCommand (fa := -9) (z := ws) (kd := kd) (fi := fi) (se := se) (dg := dg) h hb.2
    have t2 := r2 i (by omega)
    rcases q2 with ⟨y1, -⟩ | ⟨y1, -⟩ | ⟨y1, rfl, rfl, rfl, -⟩
    · rw [t2] at y1; cases y1
    · rw [t2] at y1; cases y1
    rw [q1, Option.bind_some]
    dsimp only
    rw [nI_1]
    exact C_fault_b h hR m (i + 1) k _ _ _ _ _ (by omega) (by omega)
theorem C_fault {c : Nat → Int32} {T : Nat → Nat} {n N : Nat} (h : TX c T n) (hR : RD T n N) (fa ws we kd fi se dg : Int32) : ∃ fa' ws' we' kd' fi' se' dg' : Int32, f_X5_fault c (nI n) fa ws we kd fi se dg = some (rdz T n N, fa', ws', we', kd', fi', se', dg') := C_fault_b h hR N 0 1000 0 kd fi se dg (by omega) (by have := hR.1; omega)
theorem S_fault {codes text : Nat → Int32} {size length : Int32} (h : TR codes size text length) (fa ws we kd fi se dg : Int32) (cs : Nat → Int32) (cm : Int32) : ∃ (r fa' ws' we' kd' fi' se' dg' : Int32) (cs' : Nat → Int32) (cm' : Int32), f_X5_fault codes size fa ws we kd fi se dg = some (r, fa', ws', we', kd', fi', se', dg') ∧ f_X6_fault text length cs cm = some (r, cs', cm') := by
  obtain ⟨n, T, h1, h2, rfl, rfl⟩ := h
  obtain ⟨cs', N, m1, m2, -⟩ := M_read h2 cs cm
  obtain ⟨fa', ws', we', kd', fi', se', dg', k⟩ := C_fault h1 m2 fa ws we kd fi se dg
  unfold f_X6_fault
  rw [m1, Option.bind_some]
  exact ⟨_, _, _, _, _, _, _, _, _, _, k, rfl⟩
