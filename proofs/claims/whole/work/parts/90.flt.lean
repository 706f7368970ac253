/-! stretch in the law: two floats that are alike, made doubles and compared -/
theorem k_dn {n : Nat} : (0x7ff0000000000000 < n &&& 0x7fffffffffffffff) ↔ FP.Core.decode FP.Core.b64 n = .nan := by
  have e : n &&& 0x7fffffffffffffff = n % 9223372036854775808 := Nat.and_two_pow_sub_one_eq_mod n 63
  rw [e]
  have hT : FP.Core.fieldT FP.Core.b64 n = n % 4503599627370496 := rfl
  have hE : FP.Core.fieldE FP.Core.b64 n = n / 4503599627370496 % 2048 := rfl
  have hx : FP.Core.Fmt.exps FP.Core.b64 - 1 = 2047 := rfl
  unfold FP.Core.decode
  rw [hT, hE, hx]
  by_cases h1 : n / 4503599627370496 % 2048 = 2047
  · rw [if_pos h1]
    by_cases h2 : n % 4503599627370496 = 0
    · rw [if_pos h2]
      constructor
      · intro h; omega
      · intro h; cases h
    · rw [if_neg h2]
      constructor
      · intro _; rfl
      · intro _; omega
  · rw [if_neg h1]
    constructor
    · intro h; omega
    · intro h
      split at h <;> cases h
theorem k_fn {n : Nat} (h : 0x7f800000 < n &&& 0x7fffffff) : FP.Core.decode FP.Core.b32 n = .nan := by
  have e : n &&& 0x7fffffff = n % 2147483648 := Nat.and_two_pow_sub_one_eq_mod n 31
  rw [e] at h
  have hT : FP.Core.fieldT FP.Core.b32 n = n % 8388608 := rfl
  have hE : FP.Core.fieldE FP.Core.b32 n = n / 8388608 % 256 := rfl
  have hx : FP.Core.Fmt.exps FP.Core.b32 - 1 = 255 := rfl
  unfold FP.Core.decode
  rw [hT, hE, hx, if_pos (by omega), if_neg (by omega)]
theorem k_nan64 {r : UInt64} : isNaN64 r = true ↔ FP.Core.decode FP.Core.b64 r.toNat = .nan := isNaN64_iff.trans k_dn
theorem k_cmpn {r y : UInt64} (h : isNaN64 r = true) : FP.dcmp r y = none := by
  show FP.Core.order (FP.Core.decode FP.Core.b64 r.toNat) _ = none
  rw [k_nan64.mp h]
  rfl
theorem k_cmpI (a : Int) : compare a a = Ordering.eq := by
  show compareOfLessAndEq a a = .eq
  unfold compareOfLessAndEq
  rw [if_neg (Int.lt_irrefl a), if_pos rfl]
theorem k_ords (x : FP.Core.Datum) (h : x ≠ .nan) : FP.Core.order x x = some .eq := by
  cases x with
  | nan => exact absurd rfl h
  | inf s => exact congrArg some (k_cmpI _)
  | fin s c q => exact congrArg some (k_cmpI _)
theorem k_cmps {r : UInt64} (h : ¬ isNaN64 r = true) : FP.dcmp r r = some .eq := k_ords _ (fun q => h (k_nan64.mpr q))
theorem k_f2dn {a : UInt32} (h : isNaN32 a = true) : isNaN64 (FP.f2d a) = true := by
  have h1 : FP.Core.fIsNaN a = true := decide_eq_true (k_fn (isNaN32_iff.mp h))
  unfold FP.f2d
  rw [if_pos h1]
  unfold FP.nanF2D
  exact isNaN64_or_left (isNaN64_or_right (by decide +kernel))
theorem k_alike {x rf1 rf2 : UInt32} {r1 r2 : UInt64} (h1 : alike32 rf1 x = true) (h2 : alike32 rf2 x = true) (g1 : alike64 r1 (FP.f2d rf1) = true) (g2 : alike64 r2 (FP.f2d rf2) = true) : (isNaN64 r1 = true ∧ isNaN64 r2 = true) ∨ (r1 = r2 ∧ ¬ isNaN64 r1 = true) := by
  simp only [alike32, alike64, Bool.or_eq_true, Bool.and_eq_true, decide_eq_true_eq] at h1 h2 g1 g2
  by_cases hx : isNaN32 x = true
  · have n1 : isNaN32 rf1 = true := by
      rcases h1 with h | h
      · rw [h]; exact hx
      · exact h.1
    have n2 : isNaN32 rf2 = true := by
      rcases h2 with h | h
      · rw [h]; exact hx
      · exact h.1
    refine Or.inl ⟨?_, ?_⟩
    · rcases g1 with h | h
      · rw [h]; exact k_f2dn n1
      · exact h.1
    · rcases g2 with h | h
      · rw [h]; exact k_f2dn n2
      · exact h.1
  · have e1 : rf1 = x := by
      rcases h1 with h | h
      · exact h
      · exact absurd h.2 hx
    have e2 : rf2 = x := by
      rcases h2 with h | h
      · exact h
      · exact absurd h.2 hx
    rw [e1] at g1
    rw [e2] at g2
    by_cases hy : isNaN64 (FP.f2d x) = true
    · refine Or.inl ⟨?_, ?_⟩
      · rcases g1 with h | h
        · rw [h]; exact hy
        · exact h.1
      · rcases g2 with h | h
        · rw [h]; exact hy
        · exact h.1
    · have a1 : r1 = FP.f2d x := by
        rcases g1 with h | h
        · exact h
        · exact absurd h.2 hy
      have a2 : r2 = FP.f2d x := by
        rcases g2 with h | h
        · exact h
        · exact absurd h.2 hy
      exact Or.inr ⟨a1.trans a2.symm, by rw [a1]; exact hy⟩
theorem k_LE.dr {p : Program} {S : State} {m : MethodId} {c : Code} {b L : Nat} {xs : Nat → Int32} {D : va_G} {cI cZ cN : ClassId} {aK aV : Nat → Nat} {A : Nat → Prop} (h : k_LE p S m c b L xs D cI cZ cN aK aV A) (d : Drawn) : k_LE p (S.setDrawn d) m c b L xs D cI cZ cN aK aV A := by
  obtain ⟨hx, hb, hml, hown, hts, hX, hbl, hT, hZ, hA, hbA⟩ := h
  exact ⟨hx, hb, hml, hown, dr_words hts d, hX, hbl, k_T.same (s := S) rfl hT, k_S.same (u := S) rfl hZ, hA, hbA⟩
theorem k_loopc {L i : Nat} (hL : L ≤ 2048) (hi : i ≤ 2100) : (nI L - 4 < nI i) = (L < i + 4) := by
  by_cases h : 4 ≤ L
  · rw [l4, n_sub h, n_lt (by omega) (by omega)]
    exact propext ⟨fun _ => by omega, fun _ => by omega⟩
  · have h0 : nI L - 4 < 0 := by
      rcases (show L = 0 ∨ L = 1 ∨ L = 2 ∨ L = 3 by omega) with rfl | rfl | rfl | rfl <;> decide +kernel
    have h1 : 0 ≤ nI i := nI_pos' (by omega)
    exact propext ⟨fun _ => by omega, fun _ => Int32.lt_of_lt_of_le h0 h1⟩
