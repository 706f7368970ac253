/-! one command, as numbers: what it is (0 none, 1 fault, 2 a command), kind, first, second, digit, place -/
abbrev w1 (T : Nat → Nat) (n p : Nat) : Nat := wsA T n p
abbrev x1 (T : Nat → Nat) (n p : Nat) : Nat := weA T n (wsA T n p)
abbrev sgn (T : Nat → Nat) (n lo hi p : Nat) : Prop := x1 T n p = w1 T n p + 1 ∧ lo ≤ T (w1 T n p) ∧ T (w1 T n p) ≤ hi
abbrev PC : Type := Nat × Nat × Nat × Nat × Nat × Nat
def pc3 (T : Nat → Nat) (n a b p : Nat) : PC := if sgn T n 49 57 p then (2, 0, a, b, T (w1 T n p) - 48, x1 T n p) else (1, 0, 0, 0, 0, w1 T n p)
def pc2 (T : Nat → Nat) (n k a p : Nat) : PC := if sgn T n 97 105 p then (if k = 0 then pc3 T n a (T (w1 T n p) - 97) (x1 T n p) else (2, k, a, T (w1 T n p) - 97, 0, x1 T n p)) else (1, 0, 0, 0, 0, w1 T n p)
def pc1 (T : Nat → Nat) (n k p : Nat) : PC := if sgn T n 97 105 p then pc2 T n k (T (w1 T n p) - 97) (x1 T n p) else (1, 0, 0, 0, 0, w1 T n p)
def pc4 (T : Nat → Nat) (n p : Nat) : PC := if sgn T n 50 57 p then (2, 4, 0, 0, T (w1 T n p) - 48, x1 T n p) else (1, 0, 0, 0, 0, w1 T n p)
def pcm (T : Nat → Nat) (n p : Nat) : PC :=
  if w1 T n p = x1 T n p then (0, 0, 0, 0, 0, 0)
  else if kw T (w1 T n p) (x1 T n p) = 5 then (1, 0, 0, 0, 0, w1 T n p)
  else if kw T (w1 T n p) (x1 T n p) = 4 then pc4 T n (x1 T n p)
  else pc1 T n (kw T (w1 T n p) (x1 T n p)) (x1 T n p)
theorem wx_le {T : Nat → Nat} {n p : Nat} (h : p ≤ n) : p ≤ w1 T n p ∧ w1 T n p ≤ x1 T n p ∧ x1 T n p ≤ n := by
  have a := wsA_b (T := T) h
  have b := weA_b (T := T) a.2.1
  exact ⟨a.1, b.1, b.2.1⟩
theorem kw_le (T : Nat → Nat) (s e : Nat) : kw T s e ≤ 5 := by
  unfold kw
  repeat' split
  all_goals omega
theorem C_sign {c : Nat → Int32} {T : Nat → Nat} {n p lo hi : Nat} {fa z : Int32} (h : TX c T n) (hp : p ≤ n) (hlo : lo < 1000) (hhi : hi < 1000) : f_X3_readSign (nI lo) (nI hi) c (nI n) fa z (nI p) = if sgn T n lo hi p then some (1, fa, nI (w1 T n p), nI (x1 T n p)) else some (0, nI (w1 T n p), nI (w1 T n p), nI (x1 T n p)) := by
  have hn := h.1
  have hw := wx_le (T := T) hp
  unfold f_X3_readSign
  rw [C_takeWord h hp, Option.bind_some]
  show (if nI (x1 T n p) - nI (w1 T n p) = 1 then (if inb (nI (w1 T n p)) 80 = true then (if c (Int32.toNatClampNeg (nI (w1 T n p))) < nI lo then _ else if nI hi < c (Int32.toNatClampNeg (nI (w1 T n p))) then _ else _) else _) else _) = _
  rw [n_sub hw.2.1, l1, t_eq (by omega) (by omega)]
  by_cases d : x1 T n p - w1 T n p = 1
  · obtain ⟨q1, q2, q3⟩ := h.2 (w1 T n p) (by omega)
    rw [if_pos d, t_inb (by omega), if_pos (by omega), n_cl (by omega), q1, t_lt (by omega) (by omega), t_lt (by omega) (by omega)]
    by_cases u : T (w1 T n p) < lo
    · rw [if_pos u, if_neg (fun q => by have := q.2.1; omega)]
    · rw [if_neg u]
      by_cases v : hi < T (w1 T n p)
      · rw [if_pos v, if_neg (fun q => by have := q.2.2; omega)]
      · rw [if_neg v, if_pos ⟨by omega, by omega, by omega⟩]
  · rw [if_neg d, if_neg (fun q => by have := q.1; omega)]
theorem C_digit {c : Nat → Int32} {T : Nat → Nat} {n p lo : Nat} {fa z dg : Int32} (h : TX c T n) (hp : p ≤ n) (hlo : lo < 1000) (h48 : 48 ≤ lo) : f_X3_readDigit (nI lo) c (nI n) fa z (nI p) dg = if sgn T n lo 57 p then some (1, fa, nI (w1 T n p), nI (x1 T n p), nI (T (w1 T n p) - 48)) else some (0, nI (w1 T n p), nI (w1 T n p), nI (x1 T n p), dg) := by
  have hn := h.1
  have hw := wx_le (T := T) hp
  unfold f_X3_readDigit
  rw [show (57 : Int32) = nI 57 from rfl, C_sign h hp hlo (by omega)]
  by_cases d : sgn T n lo 57 p
  · have d1 := d.1
    have d2 := d.2.1
    obtain ⟨q1, q2, q3⟩ := h.2 (w1 T n p) (by omega)
    rw [if_pos d, if_pos d, Option.bind_some]
    show (if (1 : Int32) = 0 then _ else (if inb (nI (w1 T n p)) 80 = true then some (1, fa, nI (w1 T n p), nI (x1 T n p), c (Int32.toNatClampNeg (nI (w1 T n p))) - 48) else none)) = _
    rw [if_neg ne10, t_inb (by omega), if_pos (by omega), n_cl (by omega), q1, show (48 : Int32) = nI 48 from rfl, n_sub (by omega)]
  · rw [if_neg d, if_neg d, Option.bind_some]
    show (if (0 : Int32) = 0 then _ else _) = _
    rw [if_pos rfl]
/-- two names: read, or a fault at a place -/
def nm2 (T : Nat → Nat) (n p : Nat) : Prop := sgn T n 97 105 p ∧ sgn T n 97 105 (x1 T n p)
theorem C_names {c : Nat → Int32} {T : Nat → Nat} {n p : Nat} {fa z fi se : Int32} (h : TX c T n) (hp : p ≤ n) :
    (sgn T n 97 105 p ∧ sgn T n 97 105 (x1 T n p) ∧ f_X3_readNames c (nI n) fa z (nI p) fi se = some (1, fa, nI (w1 T n (x1 T n p)), nI (x1 T n (x1 T n p)), nI (T (w1 T n p) - 97), nI (T (w1 T n (x1 T n p)) - 97))) ∨
    (sgn T n 97 105 p ∧ ¬ sgn T n 97 105 (x1 T n p) ∧ ∃ a b u v : Int32, f_X3_readNames c (nI n) fa z (nI p) fi se = some (0, nI (w1 T n (x1 T n p)), a, b, u, v)) ∨
    (¬ sgn T n 97 105 p ∧ ∃ a b u v : Int32, f_X3_readNames c (nI n) fa z (nI p) fi se = some (0, nI (w1 T n p), a, b, u, v)) := by
  have hn := h.1
  have hw := wx_le (T := T) hp
  have hw2 := wx_le (T := T) hw.2.2
  unfold f_X3_readNames
  rw [show (97 : Int32) = nI 97 from rfl, show (105 : Int32) = nI 105 from rfl, C_sign h hp (by omega) (by omega)]
  by_cases d : sgn T n 97 105 p
  · have d1 := d.1
    have d2 := d.2.1
    obtain ⟨q1, q2, q3⟩ := h.2 (w1 T n p) (by omega)
    rw [if_pos d, Option.bind_some]
    dsimp only
    rw [if_neg ne10, t_inb (by omega), if_pos (show w1 T n p < 80 by omega), C_sign h hw.2.2 (by omega) (by omega), n_cl (by omega), q1, n_sub (by omega)]
    by_cases u : sgn T n 97 105 (x1 T n p)
    · have u1 := u.1
      have u2 := u.2.1
      obtain ⟨y1, y2, y3⟩ := h.2 (w1 T n (x1 T n p)) (by omega)
      rw [if_pos u, Option.bind_some]
      dsimp only
      rw [if_neg ne10, t_inb (by omega), if_pos (by omega), n_cl (by omega), y1, n_sub (by omega)]
      exact Or.inl ⟨d, u, rfl⟩
    · rw [if_neg u, Option.bind_some]
      dsimp only
      rw [if_pos rfl]
      exact Or.inr (Or.inl ⟨d, u, _, _, _, _, rfl⟩)
  · rw [if_neg d, Option.bind_some]
    dsimp only
    rw [if_pos rfl]
    exact Or.inr (Or.inr ⟨d, _, _, _, _, rfl⟩)
/-- what readCommand answers -/
def RQ (q : PC) (fa r fa' we' kd' fi' se' dg' : Int32) : Prop :=
  (q.1 = 0 ∧ r = 0 ∧ fa' = fa) ∨ (q.1 = 1 ∧ r = 0 ∧ fa' = nI q.2.2.2.2.2) ∨
  (q.1 = 2 ∧ r = 1 ∧ fa' = fa ∧ we' = nI q.2.2.2.2.2 ∧ kd' = nI q.2.1 ∧ (q.2.1 ≠ 4 → fi' = nI q.2.2.1 ∧ se' = nI q.2.2.2.1) ∧ (q.2.1 = 0 ∨ q.2.1 = 4 → dg' = nI q.2.2.2.2.1))
theorem C_readCommand {c : Nat → Int32} {T : Nat → Nat} {n p : Nat} {fa z kd fi se dg : Int32} (h : TX c T n) (hp : p ≤ n) : ∃ r fa' ws' we' kd' fi' se' dg' : Int32, f_X3_readCommand c (nI n) fa z (nI p) kd fi se dg = some (r, fa', ws', we', kd', fi', se', dg') ∧ RQ (pcm T n p) fa r fa' we' kd' fi' se' dg' := by
  have hn := h.1
  have hw := wx_le (T := T) hp
  have hw2 := wx_le (T := T) hw.2.2
  have hw3 := wx_le (T := T) hw2.2.2
  have k5 := kw_le T (w1 T n p) (x1 T n p)
  unfold f_X3_readCommand pcm
  rw [C_takeWord h hp, Option.bind_some]
  show ∃ r fa' ws' we' kd' fi' se' dg' : Int32, (if nI (w1 T n p) = nI (x1 T n p) then _ else (f_X3_kindOfWord c (nI (w1 T n p)) (nI (x1 T n p))).bind _) = _ ∧ _
  rw [t_eq (by omega) (by omega), C_kind h hw.2.1 hw.2.2, Option.bind_some]
  by_cases d0 : w1 T n p = x1 T n p
  · rw [if_pos d0, if_pos d0]
    exact ⟨_, _, _, _, _, _, _, _, rfl, Or.inl ⟨rfl, rfl, rfl⟩⟩
  rw [if_neg d0, if_neg d0]
  generalize hk : kw T (w1 T n p) (x1 T n p) = k at *
  rw [show (if nI k = (0 : Int32) then _ else _) = _ from t_eq (a := k) (b := 0) (by omega) (by omega), show (if nI k = (4 : Int32) then _ else _) = _ from t_eq (a := k) (b := 4) (by omega) (by omega), show (if nI k = (5 : Int32) then _ else _) = _ from t_eq (a := k) (b := 5) (by omega) (by omega)]
  have names := C_names (fa := fa) (z := nI (w1 T n p)) (fi := fi) (se := se) h hw.2.2
  by_cases d5 : k = 5
  · rw [if_neg (show ¬ k = 0 by omega), if_neg (show ¬ k = 4 by omega), if_pos d5, if_pos d5]
    exact ⟨_, _, _, _, _, _, _, _, rfl, Or.inr (Or.inl ⟨rfl, rfl, rfl⟩)⟩
  rw [if_neg d5, if_neg d5]
  by_cases d4 : k = 4
  · rw [if_neg (show ¬ k = 0 by omega), if_pos d4, if_pos d4, show (50 : Int32) = nI 50 from rfl, C_digit h hw.2.2 (by omega) (by omega)]
    unfold pc4
    by_cases u : sgn T n 50 57 (x1 T n p)
    · rw [if_pos u, if_pos u, Option.bind_some]
      dsimp only
      rw [if_pos isb_1, d4]
      exact ⟨_, _, _, _, _, _, _, _, rfl, Or.inr (Or.inr ⟨rfl, rfl, rfl, rfl, rfl, fun q => absurd rfl q, fun _ => rfl⟩)⟩
    · rw [if_neg u, if_neg u, Option.bind_some]
      dsimp only
      rw [if_pos isb_0]
      exact ⟨_, _, _, _, _, _, _, _, rfl, Or.inr (Or.inl ⟨rfl, rfl, rfl⟩)⟩
  rw [if_neg d4, if_neg d4]
  unfold pc1
  rcases names with ⟨s1, s2, e⟩ | ⟨s1, s2, a, b, u, v, e⟩ | ⟨s1, a, b, u, v, e⟩
  · rw [if_pos s1]
    unfold pc2
    rw [if_pos s2]
    by_cases dk : k = 0
    · rw [if_pos dk, if_pos dk, e, Option.bind_some]
      dsimp only
      rw [if_neg ne10, show (49 : Int32) = nI 49 from rfl, C_digit h hw3.2.2 (by omega) (by omega)]
      unfold pc3
      by_cases u : sgn T n 49 57 (x1 T n (x1 T n (x1 T n p)))
      · rw [if_pos u, if_pos u, Option.bind_some]
        dsimp only
        rw [if_neg ne10, dk]
        exact ⟨_, _, _, _, _, _, _, _, rfl, Or.inr (Or.inr ⟨rfl, rfl, rfl, rfl, rfl, fun _ => ⟨rfl, rfl⟩, fun _ => rfl⟩)⟩
      · rw [if_neg u, if_neg u, Option.bind_some]
        dsimp only
        rw [if_pos rfl]
        exact ⟨_, _, _, _, _, _, _, _, rfl, Or.inr (Or.inl ⟨rfl, rfl, rfl⟩)⟩
    · rw [if_neg dk, if_neg dk, e, Option.bind_some]
      dsimp only
      rw [if_pos isb_1]
      exact ⟨_, _, _, _, _, _, _, _, rfl, Or.inr (Or.inr ⟨rfl, rfl, rfl, rfl, rfl, fun _ => ⟨rfl, rfl⟩, fun q => q.elim (fun q => absurd q dk) (fun q => absurd q d4)⟩)⟩
  · rw [if_pos s1]
    unfold pc2
    rw [if_neg s2, e, Option.bind_some, Option.bind_some]
    dsimp only
    rw [if_pos (show (0 : Int32) = 0 from rfl), if_pos isb_0]
    by_cases dk : k = 0
    · rw [if_pos dk]; exact ⟨_, _, _, _, _, _, _, _, rfl, Or.inr (Or.inl ⟨rfl, rfl, rfl⟩)⟩
    · rw [if_neg dk]; exact ⟨_, _, _, _, _, _, _, _, rfl, Or.inr (Or.inl ⟨rfl, rfl, rfl⟩)⟩
  · rw [if_neg s1, e, Option.bind_some, Option.bind_some]
    dsimp only
    rw [if_pos (show (0 : Int32) = 0 from rfl), if_pos isb_0]
    by_cases dk : k = 0
    · rw [if_pos dk]; exact ⟨_, _, _, _, _, _, _, _, rfl, Or.inr (Or.inl ⟨rfl, rfl, rfl⟩)⟩
    · rw [if_neg dk]; exact ⟨_, _, _, _, _, _, _, _, rfl, Or.inr (Or.inl ⟨rfl, rfl, rfl⟩)⟩
