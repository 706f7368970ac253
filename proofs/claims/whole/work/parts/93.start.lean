/-! the law's start: what the Statement gives, and what holds of two new objects -/
theorem k_sim0 : Sim (fun j => j) (0 : Int32) (fun _ => 0) (0 : Int32) (0 : Int32) (4 : Int32) (0 : Int32) (18 : Int32) (0 : Int32) (0 : Int32) (fun _ => 0) (fun _ => 0) (fun _ => 0) (0 : Int32) (0 : Int32) (0 : Int32) (0 : Int32) (0 : Int32) (0 : Int32) (0 : Int32) (fun _ => 0) (fun _ => 0) (fun _ => 0) (fun _ => 0) (0 : Int32) (fun _ => k_NV0) (fun _ => k_NV0) (upd (upd (fun _ => 0) (Int32.toNatClampNeg (0 : Int32)) (4 : Int32)) (Int32.toNatClampNeg (2 : Int32)) (18 : Int32)) (fun _ => 0) (0 : Int32) (fun _ => 0) (0 : Int32) (fun _ => 0) (0 : Int32) (0 : Int32) (0 : Int32) (fun _ => 0) (fun _ => 0) (fun _ => 0) (0 : Int32) (fun _ => 0) (fun _ => 0) := by
  have no : ∀ {P : Nat → Prop} (i : Nat), i < 0 → P i := fun i h => absurd h (Nat.not_lt_zero i)
  refine ⟨(4, 0, 18, fun _ => 0, fun _ => 0, fun _ => 0, fun _ => false, fun _ => false), ⟨Nat.le_of_ble_eq_true rfl, Nat.le_of_ble_eq_true rfl, Nat.le_of_ble_eq_true rfl, Nat.le_of_ble_eq_true rfl, fun i h => absurd h (Nat.not_lt_zero i)⟩, ⟨l4, l0, l18, ?_, ?_, fun i h => absurd h (Nat.not_lt_zero i)⟩, ⟨l4, l0, l18, fun i h => absurd h (Nat.not_lt_zero i)⟩, ⟨⟨fun j h => h, fun i j _ _ h => h⟩, 0, Nat.zero_le _, l0, fun j h => absurd h (Nat.not_lt_zero j)⟩, rfl, ⟨0, by decide, l0, fun j h => ⟨?_, fun h => ?_⟩⟩, Or.inl rfl, rfl, ⟨0, fun _ => 0, ⟨Nat.zero_le _, fun j h => absurd h (Nat.not_lt_zero j)⟩, ⟨Nat.zero_le _, fun j h => absurd h (Nat.not_lt_zero j)⟩, l0, l0⟩⟩
  · intro i hi
    show bt 0 i = _
    rw [b_0]
    rfl
  · intro i hi
    show bt 0 i = _
    rw [b_0]
    rfl
  · rw [Nat.zero_testBit]
    rfl
  · rw [Nat.zero_testBit] at h
    cases h
theorem k_startT {s : State} {av : Array Value} (hts : ∀ w ∈ lw_tbl, w.before av s = true) : ∃ (D : va_G) (cI cZ cN : ClassId), k_T D cI cZ cN s := by
  have hu : ∀ w ∈ k_U, w.before av s = true := fun w h => hts w (List.mem_filter.mp h).1
  obtain ⟨c0, i0, h0⟩ := u_known (C := RX0) (T := TX0) (N := 12) (n := 12) hu k_iX0 (hu _ u_139)
  obtain ⟨c1, i1, h1⟩ := u_known (C := RX1) (T := TX1) (N := 8) (n := 8) hu k_iX1 (hu _ u_68)
  obtain ⟨c2, i2, h2⟩ := u_known (C := RX2) (T := TX2) (N := 12) (n := 12) hu k_iX2 (hu _ u_196)
  obtain ⟨c3, i3, h3⟩ := u_known (C := RX3) (T := TX3) (N := 9) (n := 9) hu k_iX3 (hu _ u_248)
  obtain ⟨c4, i4, h4⟩ := u_known (C := RX4) (T := TX4) (N := 3) (n := 3) hu k_iX4 (hu _ u_122)
  obtain ⟨c5, i5, h5⟩ := u_known (C := RX5) (T := TX5) (N := 12) (n := 12) hu k_iX5 (hu _ u_60)
  obtain ⟨c6, i6, h6⟩ := u_known (C := RX6) (T := TX6) (N := 29) (n := 29) hu k_iX6 (hu _ u_713)
  obtain ⟨cI, kI, pI, a1, a2, a3⟩ := Cond.arrayClass_spec (args := av) (first := s) (o := none) (s := s) (idx := []) (hu _ u_120)
  obtain ⟨cZ, kZ, pZ, b1, b2, b3⟩ := Cond.arrayClass_spec (args := av) (first := s) (o := none) (s := s) (idx := []) (hu _ u_194)
  obtain ⟨cmp, cN, kN, n1, -, n2, n3, n4⟩ := Cond.arrayOver_spec (args := av) (first := s) (o := none) (s := s) (idx := []) (hts _ v_137)
  refine ⟨(fun k => [c0, c1, c2, c3, c4, c5, c6].getD k c0, fun k => [i0, i1, i2, i3, i4, i5, i6].getD k i0), cI, cZ, cN, ⟨?_, ?_⟩, ?_⟩
  · intro k q hq
    match k, hq with
    | 0, hq => cases hq; exact h0
    | 1, hq => cases hq; exact h1
    | 2, hq => cases hq; exact h2
    | 3, hq => cases hq; exact h3
    | 4, hq => cases hq; exact h4
    | 5, hq => cases hq; exact h5
    | 6, hq => cases hq; exact h6
    | k + 7, hq => simp [vwCl] at hq
  · intro k q hq
    match k, hq with
    | 0, hq => cases hq; exact ⟨fun n z => ⟨fun k h => (by cases h), kI, a2, pI, a3⟩, a1⟩
    | 1, hq => cases hq; exact ⟨fun n z => ⟨fun k h => (by cases h), kZ, b2, pZ, b3⟩, b1⟩
    | 2, hq => cases hq; exact ⟨fun n z => ⟨fun k h => (by cases h), kN, n2, cmp, n3⟩, kN, cmp, n2, n3, n1, n4⟩
    | k + 3, hq => simp at hq
  · exact ⟨va_AO.of (hts _ v_137), va_Nw.of rfl (hts _ v_69), va_Nw.of rfl (hts _ v_249), va_Nw.of rfl (hts _ v_366), va_Nw.of rfl (hts _ v_434), va_Nw.of rfl (hts _ v_465), va_Nw.of rfl (hts _ v_521), va_Nw.of rfl (hts _ v_526), va_Nw.of rfl (hts _ v_702), va_Nw.of rfl (hts _ v_703)⟩
abbrev k_tm (i : Nat) : Term := Term.string RX3 ([55, 61, 63, 65, 67].getD i 0)
abbrev k_given : List Cond := flatC (Jvm.Cond.and given_1 narrow_1)
theorem k_g1 : ∀ i, i < 5 → Cond.exactly (k_tm i) "java/lang/String" ∈ k_given := by decide +kernel
theorem k_g2 : ∀ i, i < 5 → Cond.eq (.field (k_tm i) "java/lang/String" "coder" "B") (.int 0) ∈ k_given := by decide +kernel
theorem k_g3 : ∀ i, i < 5 → Cond.arrayOf (.field (k_tm i) "java/lang/String" "value" "[B") .byte ∈ k_given := by decide +kernel
theorem k_g4 : ∀ i, i < 5 → Cond.eq (.length (.field (k_tm i) "java/lang/String" "value" "[B")) (.int (Int32.ofNat (k_slen.getD i 0))) ∈ k_given := by decide +kernel
theorem k_g5 : ∀ i, i < 5 → ∀ j, j < k_slen.getD i 0 → Cond.eq (.elem (.field (k_tm i) "java/lang/String" "value" "[B") (.int (Int32.ofNat j))) (.int ((k_sbyt.getD i []).getD j 0)) ∈ k_given := by decide +kernel
theorem k_g6 : ∀ i, i < 5 → ∀ j, j < 5 → i ≠ j → Cond.not (Cond.eq (k_tm i) (k_tm j)) ∈ k_given ∨ Cond.not (Cond.eq (k_tm j) (k_tm i)) ∈ k_given := by decide +kernel
theorem k_g7 : ∀ i, i < 5 → k_slen.getD i 0 < 2 ^ 31 := by decide +kernel
theorem k_startS {s : State} {b : Nat} (hts : ∀ w ∈ lw_tbl, w.before #[Value.ref b] s = true) (hgv : (Jvm.Cond.and given_1 narrow_1).before #[Value.ref b] s = true) : ∃ aK aV : Nat → Nat, k_S aK aV (fun q => s.heap.size ≤ q) s s.heap := by
  have hs := flat_of_before _ hgv
  have hu : ∀ w ∈ k_U, w.before #[Value.ref b] s = true := fun w h => hts w (List.mem_filter.mp h).1
  have hA : ∀ a : Nat, a < s.heap.size → ¬ (fun q : Nat => s.heap.size ≤ q) a := fun a h => Nat.not_le.mpr h
  obtain ⟨aK, aV, h1, h2⟩ := vk_Sof (args := #[Value.ref b]) (s := s) (N := 5) (tm := k_tm) (len := k_slen) (byt := k_sbyt) (A := fun q => s.heap.size ≤ q) k_g7 (fun i hi => hs _ (k_g1 i hi)) (fun i hi => hs _ (k_g2 i hi)) (fun i hi => hs _ (k_g3 i hi)) (fun i hi => hs _ (k_g4 i hi)) (fun i hi j hj => hs _ (k_g5 i hi j hj)) (fun i j hi hj hij => (k_g6 i hi j hj hij).imp (hs _) (hs _)) hA
  have z1 : Cond.laysStatic "java/lang/String" "COMPACT_STRINGS" "Z" ∈ lw_tbl := List.mem_of_getElem? (i := 629) (by decide +kernel)
  have z2 : Cond.laysStatic "jdk/internal/util/Preconditions" "SIOOBE_FORMATTER" "Ljava/util/function/BiFunction;" ∈ lw_tbl := List.mem_of_getElem? (i := 645) (by decide +kernel)
  have y1 : Cond.eq (.static "java/lang/String" "COMPACT_STRINGS" "Z") (.int 1) ∈ k_given := by decide +kernel
  have y2 : Cond.isRef (.static "jdk/internal/util/Preconditions" "SIOOBE_FORMATTER" "Ljava/util/function/BiFunction;") ∈ k_given := by decide +kernel
  exact ⟨aK, aV, h1, va_Zof (hts _ z1) (hu _ u_55) (va_eqi (hs _ y1)) hA, va_Zqof (hts _ z2) (hu _ u_57) (hs _ y2) hA, vk_R.of (hts _ v_615) (h2 0 (by decide)), vk_R.of (hts _ v_668) (h2 1 (by decide)), vk_R.of (hts _ v_669) (h2 2 (by decide)), vk_R.of (hts _ v_670) (h2 3 (by decide)), vk_R.of (hts _ v_671) (h2 4 (by decide))⟩
