/-! words of the text -/
def skp (T : Nat → Nat) : Nat → Nat → Nat
  | 0, p => p
  | m + 1, p => if T p = 32 then skp T m (p + 1) else p
def wnd (T : Nat → Nat) : Nat → Nat → Nat
  | 0, p => p
  | m + 1, p => if T p = 32 then p else wnd T m (p + 1)
/-- where the next word from p on begins, and where a word that begins at s ends -/
def wsA (T : Nat → Nat) (n p : Nat) : Nat := skp T (n - p) p
def weA (T : Nat → Nat) (n s : Nat) : Nat := wnd T (n - s) s
theorem skp_b (T : Nat → Nat) : ∀ m p, p ≤ skp T m p ∧ skp T m p ≤ p + m ∧ (skp T m p < p + m → T (skp T m p) ≠ 32)
  | 0, p => ⟨Nat.le_refl _, Nat.le_refl _, fun h => absurd h (Nat.lt_irrefl _)⟩
  | m + 1, p => by
    have ih := skp_b T m (p + 1)
    rw [skp]
    by_cases c : T p = 32
    · rw [if_pos c]; exact ⟨by omega, by omega, fun h => ih.2.2 (by omega)⟩
    · rw [if_neg c]; exact ⟨by omega, by omega, fun _ => c⟩
theorem wnd_b (T : Nat → Nat) : ∀ m p, p ≤ wnd T m p ∧ wnd T m p ≤ p + m ∧ (wnd T m p < p + m → T (wnd T m p) = 32)
  | 0, p => ⟨Nat.le_refl _, Nat.le_refl _, fun h => absurd h (Nat.lt_irrefl _)⟩
  | m + 1, p => by
    have ih := wnd_b T m (p + 1)
    rw [wnd]
    by_cases c : T p = 32
    · rw [if_pos c]; exact ⟨by omega, by omega, fun _ => c⟩
    · rw [if_neg c]; exact ⟨by omega, by omega, fun h => ih.2.2 (by omega)⟩
theorem wsA_b {T : Nat → Nat} {n p : Nat} (h : p ≤ n) : p ≤ wsA T n p ∧ wsA T n p ≤ n ∧ (wsA T n p < n → T (wsA T n p) ≠ 32) := by
  have := skp_b T (n - p) p
  unfold wsA
  rw [show p + (n - p) = n by omega] at this
  exact this
theorem weA_b {T : Nat → Nat} {n s : Nat} (h : s ≤ n) : s ≤ weA T n s ∧ weA T n s ≤ n ∧ (weA T n s < n → T (weA T n s) = 32) := by
  have := wnd_b T (n - s) s
  unfold weA
  rw [show s + (n - s) = n by omega] at this
  exact this
theorem weA_lt {T : Nat → Nat} {n s : Nat} (h : s < n) (hs : T s ≠ 32) : s < weA T n s := by
  unfold weA
  rw [show n - s = (n - s - 1) + 1 by omega, wnd, if_neg hs]
  have := wnd_b T (n - s - 1) (s + 1)
  omega
theorem weA_n {T : Nat → Nat} {n : Nat} : weA T n n = n := by unfold weA; rw [Nat.sub_self, wnd]
theorem wsA_self {T : Nat → Nat} {n s : Nat} (h : s < n) (hs : T s ≠ 32) : wsA T n s = s := by
  unfold wsA
  rw [show n - s = (n - s - 1) + 1 by omega, skp, if_neg hs]
theorem wsA_n {T : Nat → Nat} {n : Nat} : wsA T n n = n := by unfold wsA; rw [Nat.sub_self, skp]
theorem wsA_next {T : Nat → Nat} {n e : Nat} (h : e < n) (hs : T e = 32) : wsA T n (e + 1) = wsA T n e := by
  unfold wsA
  rw [show n - e = (n - (e + 1)) + 1 by omega, skp, if_pos hs]
/-- the text, on one side -/
def TX (c : Nat → Int32) (T : Nat → Nat) (n : Nat) : Prop := n ≤ 80 ∧ ∀ j, j < n → c j = nI (T j) ∧ 32 ≤ T j ∧ T j ≤ 126
theorem C_tw54 {c : Nat → Int32} {T : Nat → Nat} {n s : Nat} (h : TX c T n) : ∀ (m e fuel : Nat), e + m = n → m < fuel → f_X3_takeWord_b54 fuel c (nI n) (nI s) (nI e) = some (nI s, nI (wnd T m e))
  | 0, e, fuel, h1, h2 => by
    obtain ⟨k, rfl⟩ : ∃ k, fuel = k + 1 := ⟨fuel - 1, by omega⟩
    have hn := h.1
    rw [f_X3_takeWord_b54, t_le (by omega) (by omega), if_pos (by omega), wnd]
  | m + 1, e, fuel, h1, h2 => by
    obtain ⟨k, rfl⟩ : ∃ k, fuel = k + 1 := ⟨fuel - 1, by omega⟩
    have hn := h.1
    obtain ⟨q1, q2, q3⟩ := h.2 e (by omega)
    rw [f_X3_takeWord_b54, t_le (by omega) (by omega), if_neg (by omega), t_inb (by omega), if_pos (show e < 80 by omega), n_cl (by omega), q1, l32, t_eq (by omega) (by omega), wnd, nI_1]
    by_cases d : T e = 32
    · rw [if_pos d, if_pos d]
    · rw [if_neg d, if_neg d]; exact C_tw54 h m (e + 1) k (by omega) (by omega)
theorem C_tw8 {c : Nat → Int32} {T : Nat → Nat} {n : Nat} {z : Int32} (h : TX c T n) : ∀ (m p fuel : Nat), p + m = n → m < fuel → f_X3_takeWord_b8 fuel c (nI n) (nI p) z = some (nI (skp T m p), nI (weA T n (skp T m p)))
  | 0, p, fuel, h1, h2 => by
    obtain ⟨k, rfl⟩ : ∃ k, fuel = k + 1 := ⟨fuel - 1, by omega⟩
    have hn := h.1
    rw [f_X3_takeWord_b8, t_le (by omega) (by omega), if_pos (by omega), skp, C_tw54 h (n - p) p 1000 (by omega) (by omega)]
    rfl
  | m + 1, p, fuel, h1, h2 => by
    obtain ⟨k, rfl⟩ : ∃ k, fuel = k + 1 := ⟨fuel - 1, by omega⟩
    have hn := h.1
    obtain ⟨q1, q2, q3⟩ := h.2 p (by omega)
    rw [f_X3_takeWord_b8, t_le (by omega) (by omega), if_neg (by omega), t_inb (by omega), if_pos (show p < 80 by omega), n_cl (by omega), q1, l32, t_eq (by omega) (by omega), skp, nI_1]
    by_cases d : T p = 32
    · rw [if_pos d, if_pos d]; exact C_tw8 h m (p + 1) k (by omega) (by omega)
    · rw [if_neg d, if_neg d, C_tw54 h (n - p) p 1000 (by omega) (by omega)]
      rfl
/-- Text.takeWord -/
theorem C_takeWord {c : Nat → Int32} {T : Nat → Nat} {n p : Nat} {z : Int32} (h : TX c T n) (hp : p ≤ n) : f_X3_takeWord c (nI n) z (nI p) = some (nI (wsA T n p), nI (weA T n (wsA T n p))) := C_tw8 h (n - p) p 1000 (by omega) (by have := h.1; omega)
/-! the kinds of words -/
def isW (T : Nat → Nat) (s : Nat) : List Nat → Bool
  | [] => true
  | c :: L => decide (T s = c) && isW T (s + 1) L
def kW0 : List Nat := [108, 105, 110, 107]
def kW1 : List Nat := [99, 117, 116]
def kW2 : List Nat := [102, 105, 120]
def kW3 : List Nat := [108, 101, 97, 114, 110]
def kW4 : List Nat := [115, 105, 122, 101]
def isWd (T : Nat → Nat) (s e : Nat) (L : List Nat) : Bool := decide (e = s + L.length) && isW T s L
def kw (T : Nat → Nat) (s e : Nat) : Nat := if isWd T s e kW0 = true then 0 else if isWd T s e kW1 = true then 1 else if isWd T s e kW2 = true then 2 else if isWd T s e kW3 = true then 3 else if isWd T s e kW4 = true then 4 else 5
theorem C_isW {c : Nat → Int32} {T : Nat → Nat} {n s e si : Nat} (h : TX c T n) (he : e ≤ n) : ∀ (L : List Nat) (i fuel : Nat), i + L.length = k_slen.getD si 0 → s + i + L.length = e → L.length < fuel → (∀ j, j < L.length → (k_sbyt.getD si []).getD (i + j) 0 = nI (L.getD j 0) ∧ L.getD j 0 < 1000) → f_X3_wordIs_b20 si fuel (nI i) c (nI s) (nI e) = some (b01 (isW T (s + i) L))
  | [], i, fuel, h1, h2, h3, h4 => by
    obtain ⟨k, rfl⟩ : ∃ k, fuel = k + 1 := ⟨fuel - 1, by omega⟩
    have hn := h.1
    have h1' : i + 0 = k_slen.getD si 0 := h1
    have h2' : s + i + 0 = e := h2
    rw [f_X3_wordIs_b20, ← h1', t_le (by omega) (by omega), if_pos (by omega)]
    rfl
  | x :: L, i, fuel, h1, h2, h3, h4 => by
    have hl : (x :: L).length = L.length + 1 := rfl
    rw [hl] at h1 h2 h3 h4
    obtain ⟨k, rfl⟩ : ∃ k, fuel = k + 1 := ⟨fuel - 1, by omega⟩
    have hn := h.1
    obtain ⟨q1, q2, q3⟩ := h.2 (s + i) (by omega)
    obtain ⟨z1, z2⟩ := h4 0 (by omega)
    have z1' : (k_sbyt.getD si []).getD i 0 = nI x := z1
    have z2' : x < 1000 := z2
    rw [f_X3_wordIs_b20, ← h1, t_le (by omega) (by omega), if_neg (by omega), n_add, t_inb (by omega), if_pos (show s + i < 80 by omega), t_inb (by omega), if_pos (show i < i + (L.length + 1) by omega), n_cl (by omega), n_cl (by omega), q1, z1', t_eq (by omega) (by omega), nI_1, isW]
    by_cases d : T (s + i) = x
    · rw [if_pos d, decide_eq_true d, Bool.true_and]
      have := C_isW h he (si := si) (s := s) L (i + 1) k (by omega) (by omega) (by omega) (fun j hj => by
        have := h4 (j + 1) (by omega)
        rw [show i + 1 + j = i + (j + 1) by omega]
        exact this)
      rw [this]
      rfl
    · rw [if_neg d, decide_eq_false d, Bool.false_and]; rfl
theorem C_wordIs {c : Nat → Int32} {T : Nat → Nat} {n s e si : Nat} {L : List Nat} (h : TX c T n) (hs : s ≤ e) (he : e ≤ n) (h1 : L.length = k_slen.getD si 0) (hL : L.length < 10) (h4 : ∀ j, j < L.length → (k_sbyt.getD si []).getD j 0 = nI (L.getD j 0) ∧ L.getD j 0 < 1000) : f_X3_wordIs si c (nI s) (nI e) = some (b01 (isWd T s e L)) := by
  have hn := h.1
  unfold f_X3_wordIs isWd
  rw [n_sub hs, ← h1, t_eq (by omega) (by omega)]
  by_cases d : e - s = L.length
  · rw [if_pos d, decide_eq_true (show e = s + L.length by omega), Bool.true_and]
    exact C_isW h he L 0 1000 (by omega) (by omega) (by omega) (fun j hj => by rw [Nat.zero_add]; exact h4 j hj)
  · rw [if_neg d, decide_eq_false (show ¬ e = s + L.length by omega), Bool.false_and]; rfl
theorem C_kind {c : Nat → Int32} {T : Nat → Nat} {n s e : Nat} (h : TX c T n) (hs : s ≤ e) (he : e ≤ n) : f_X3_kindOfWord c (nI s) (nI e) = some (nI (kw T s e)) := by
  unfold f_X3_kindOfWord kw
  rw [C_wordIs (L := kW0) (si := 0) h hs he rfl (by decide) (by decide +kernel), C_wordIs (L := kW1) (si := 1) h hs he rfl (by decide) (by decide +kernel), C_wordIs (L := kW2) (si := 2) h hs he rfl (by decide) (by decide +kernel), C_wordIs (L := kW3) (si := 3) h hs he rfl (by decide) (by decide +kernel), C_wordIs (L := kW4) (si := 4) h hs he rfl (by decide) (by decide +kernel)]
  simp only [Option.bind_some, b01_eq0]
  by_cases c0 : isWd T s e kW0 = true
  · rw [if_pos c0, if_pos c0]; rfl
  rw [if_neg c0, if_neg c0]
  by_cases c1 : isWd T s e kW1 = true
  · rw [if_pos c1, if_pos c1]; rfl
  rw [if_neg c1, if_neg c1]
  by_cases c2 : isWd T s e kW2 = true
  · rw [if_pos c2, if_pos c2]; rfl
  rw [if_neg c2, if_neg c2]
  by_cases c3 : isWd T s e kW3 = true
  · rw [if_pos c3, if_pos c3]; rfl
  rw [if_neg c3, if_neg c3]
  by_cases c4 : isWd T s e kW4 = true
  · rw [if_pos c4, if_pos c4]; rfl
  rw [if_neg c4, if_neg c4]; rfl
