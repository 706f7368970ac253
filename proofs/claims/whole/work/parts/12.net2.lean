def f_X1_copyFrom_b42  : Nat → Int32 → Int32 → Int32 → Int32 → Int32 → Int32 → (Nat → Int32) → (Nat → Int32) → (Nat → Int32) → Int32 → Int32 → Int32 → Int32 → Int32 → (Nat → Int32) → (Nat → Int32) → (Nat → Int32) → Option (Int32 × Int32 × Int32 × Int32 × Int32 × (Nat → Int32) × (Nat → Int32) × (Nat → Int32))
  | 0, _, _, _, _, _, _, _, _, _, _, _, _, _, _, _, _, _ => none
  | n + 1, x2, n_nodes, n_links, n_room, n_alive, n_inMap, n_low, n_high, n_length, o_nodes, o_links, o_room, o_alive, o_inMap, o_low, o_high, o_length =>
    if (18 : Int32) ≤ x2 then
      some (n_nodes, n_links, n_room, n_alive, n_inMap, n_low, n_high, n_length)
    else
      if inb x2 18 = true then
      (f_X1_copyFrom_b42 n) (x2 + (1 : Int32)) n_nodes n_links n_room n_alive n_inMap (upd n_low (Int32.toNatClampNeg x2) (o_low (Int32.toNatClampNeg x2))) (upd n_high (Int32.toNatClampNeg x2) (o_high (Int32.toNatClampNeg x2))) (upd n_length (Int32.toNatClampNeg x2) (o_length (Int32.toNatClampNeg x2))) o_nodes o_links o_room o_alive o_inMap o_low o_high o_length
      else none
def f_X1_copyFrom (n_nodes : Int32) (n_links : Int32) (n_room : Int32) (n_alive : Int32) (n_inMap : Int32) (n_low : (Nat → Int32)) (n_high : (Nat → Int32)) (n_length : (Nat → Int32)) (o_nodes : Int32) (o_links : Int32) (o_room : Int32) (o_alive : Int32) (o_inMap : Int32) (o_low : (Nat → Int32)) (o_high : (Nat → Int32)) (o_length : (Nat → Int32)) : Option (Int32 × Int32 × Int32 × Int32 × Int32 × (Nat → Int32) × (Nat → Int32) × (Nat → Int32)) :=
  f_X1_copyFrom_b42 1000 (0 : Int32) o_nodes o_links o_room o_alive o_inMap n_low n_high n_length o_nodes o_links o_room o_alive o_inMap o_low o_high o_length
set_option maxHeartbeats 4000000 in
set_option maxRecDepth 100000 in
theorem c_X1_copyFrom (l : Launch) (D : va_G) (cI cZ cN : ClassId) (aK aV : Nat → Nat)  (qn : Nat) (qn_low : Nat) (qn_high : Nat) (qn_length : Nat) (qo : Nat) (qo_low : Nat) (qo_high : Nat) (qo_length : Nat) (n_nodes : Int32) (n_links : Int32) (n_room : Int32) (n_alive : Int32) (n_inMap : Int32) (n_low : (Nat → Int32)) (n_high : (Nat → Int32)) (n_length : (Nat → Int32)) (o_nodes : Int32) (o_links : Int32) (o_room : Int32) (o_alive : Int32) (o_inMap : Int32) (o_low : (Nat → Int32)) (o_high : (Nat → Int32)) (o_length : (Nat → Int32)) (z_n_nodes : Int32) (z_n_links : Int32) (z_n_room : Int32) (z_n_alive : Int32) (z_n_inMap : Int32) (z_n_low : (Nat → Int32)) (z_n_high : (Nat → Int32)) (z_n_length : (Nat → Int32)) (h : f_X1_copyFrom n_nodes n_links n_room n_alive n_inMap n_low n_high n_length o_nodes o_links o_room o_alive o_inMap o_low o_high o_length = some (z_n_nodes, z_n_links, z_n_room, z_n_alive, z_n_inMap, z_n_low, z_n_high, z_n_length)) : CtV l D cI cZ cN aK aV yX1_copyFrom (k_W yX1_copyFrom cX1_copyFrom 3 none) { frames := 0, cells := 0, slots := 0, locals := 0 } [.ref qn, .ref qo] [(qn, .inr (1, [.int n_nodes, .int n_links, .int n_room, .int n_alive, .int n_inMap, .ref qn_low, .ref qn_high, .ref qn_length])), (qn_low, .inl (cI, 18, .inl n_low)), (qn_high, .inl (cI, 18, .inl n_high)), (qn_length, .inl (cI, 18, .inl n_length)), (qo, .inr (1, [.int o_nodes, .int o_links, .int o_room, .int o_alive, .int o_inMap, .ref qo_low, .ref qo_high, .ref qo_length])), (qo_low, .inl (cI, 18, .inl o_low)), (qo_high, .inl (cI, 18, .inl o_high)), (qo_length, .inl (cI, 18, .inl o_length))] [(qn, .inr (1, [.int z_n_nodes, .int z_n_links, .int z_n_room, .int z_n_alive, .int z_n_inMap, .ref qn_low, .ref qn_high, .ref qn_length])), (qn_low, .inl (cI, 18, .inl z_n_low)), (qn_high, .inl (cI, 18, .inl z_n_high)), (qn_length, .inl (cI, 18, .inl z_n_length)), (qo, .inr (1, [.int o_nodes, .int o_links, .int o_room, .int o_alive, .int o_inMap, .ref qo_low, .ref qo_high, .ref qo_length])), (qo_low, .inl (cI, 18, .inl o_low)), (qo_high, .inl (cI, 18, .inl o_high)), (qo_length, .inl (cI, 18, .inl o_length))] := by
  refine k_startV (by decide) (Nat.le_of_ble_eq_true rfl) ?_
  intro p e s m below meth c A ls hx hb hr hml hown hts hlocks hT hZ hA hP hD hS hl
  have hK := hT.1
  have hu : ∀ w ∈ k_U, w.before ([.ref qn, .ref qo] : List Value).toArray s = true := fun w h => hts w (List.mem_cons_of_mem _ h)
  have hown : s.vm.findClass RX1 = some m.cls := hown
  have hl : lv_has ls 3 [(0, .ref qn), (1, .ref qo)] := hl
  unfold f_X1_copyFrom at h
  have w42 : ∀ (n42 : Nat) (x2 : Int32) (n_nodes : Int32) (n_links : Int32) (n_room : Int32) (n_alive : Int32) (n_inMap : Int32) (n_low : (Nat → Int32)) (n_high : (Nat → Int32)) (n_length : (Nat → Int32)) (o_nodes : Int32) (o_links : Int32) (o_room : Int32) (o_alive : Int32) (o_inMap : Int32) (o_low : (Nat → Int32)) (o_high : (Nat → Int32)) (o_length : (Nat → Int32)) (H : Heap) (locs : List Loc) (ls : Array Slot), va_P D vwCl [(qn, .inr (1, [.int n_nodes, .int n_links, .int n_room, .int n_alive, .int n_inMap, .ref qn_low, .ref qn_high, .ref qn_length])), (qn_low, .inl (cI, 18, .inl n_low)), (qn_high, .inl (cI, 18, .inl n_high)), (qn_length, .inl (cI, 18, .inl n_length)), (qo, .inr (1, [.int o_nodes, .int o_links, .int o_room, .int o_alive, .int o_inMap, .ref qo_low, .ref qo_high, .ref qo_length])), (qo_low, .inl (cI, 18, .inl o_low)), (qo_high, .inl (cI, 18, .inl o_high)), (qo_length, .inl (cI, 18, .inl o_length))] H → va_D A [(qn, .inr (1, [.int n_nodes, .int n_links, .int n_room, .int n_alive, .int n_inMap, .ref qn_low, .ref qn_high, .ref qn_length])), (qn_low, .inl (cI, 18, .inl n_low)), (qn_high, .inl (cI, 18, .inl n_high)), (qn_length, .inl (cI, 18, .inl n_length)), (qo, .inr (1, [.int o_nodes, .int o_links, .int o_room, .int o_alive, .int o_inMap, .ref qo_low, .ref qo_high, .ref qo_length])), (qo_low, .inl (cI, 18, .inl o_low)), (qo_high, .inl (cI, 18, .inl o_high)), (qo_length, .inl (cI, 18, .inl o_length))] → va_S A s.heap H locs → lv_has ls 3 [(0, .ref qn), (1, .ref qo), (2, .int x2)] → f_X1_copyFrom_b42 n42 x2 n_nodes n_links n_room n_alive n_inMap n_low n_high n_length o_nodes o_links o_room o_alive o_inMap o_low o_high o_length = some (z_n_nodes, z_n_links, z_n_room, z_n_alive, z_n_inMap, z_n_low, z_n_high, z_n_length) → W p l e { frames := 0, cells := 0, slots := 0, locals := 0 } s m ([.ref qn, .ref qo] : List Value).toArray below meth c H locs 0 0 (MQ below (k_QV D [(qn, .inr (1, [.int z_n_nodes, .int z_n_links, .int z_n_room, .int z_n_alive, .int z_n_inMap, .ref qn_low, .ref qn_high, .ref qn_length])), (qn_low, .inl (cI, 18, .inl z_n_low)), (qn_high, .inl (cI, 18, .inl z_n_high)), (qn_length, .inl (cI, 18, .inl z_n_length)), (qo, .inr (1, [.int o_nodes, .int o_links, .int o_room, .int o_alive, .int o_inMap, .ref qo_low, .ref qo_high, .ref qo_length])), (qo_low, .inl (cI, 18, .inl o_low)), (qo_high, .inl (cI, 18, .inl o_high)), (qo_length, .inl (cI, 18, .inl o_length))] A) ([.ref qn, .ref qo] : List Value).toArray s 0 0 A) (F0 m 42 ls []) := by
    intro n42
    induction n42 with
    | zero =>
      intro x2 n_nodes n_links n_room n_alive n_inMap n_low n_high n_length o_nodes o_links o_room o_alive o_inMap o_low o_high o_length H locs ls hP hD hS hl h
      rw [f_X1_copyFrom_b42] at h
      cases h
    | succ n42 ih42 =>
      intro x2 n_nodes n_links n_room n_alive n_inMap n_low n_high n_length o_nodes o_links o_room o_alive o_inMap o_low o_high o_length H locs ls hP hD hS hl h
      rw [f_X1_copyFrom_b42] at h
      refine lv_iload_n hx hb dX1_copyFrom_42 rfl (lv_at hl 2 rfl) ?_
      refine lv_bipush (v := (18 : Int32)) hx hb dX1_copyFrom_43 (by decide) ?_
      refine lv_icmp_ge (tgt := 90) hx hb dX1_copyFrom_45 (by decide) (fun cc_1 => ?_) (fun cc_1 => ?_)
      · have h := (if_pos cc_1).symm.trans h
        have hq := Option.some.inj h
        clear h
        obtain ⟨e0, hq0⟩ := Prod.mk.inj hq
        clear hq
        obtain ⟨e1, hq1⟩ := Prod.mk.inj hq0
        clear hq0
        obtain ⟨e2, hq2⟩ := Prod.mk.inj hq1
        clear hq1
        obtain ⟨e3, hq3⟩ := Prod.mk.inj hq2
        clear hq2
        obtain ⟨e4, hq4⟩ := Prod.mk.inj hq3
        clear hq3
        obtain ⟨e5, hq5⟩ := Prod.mk.inj hq4
        clear hq4
        obtain ⟨e6, hq6⟩ := Prod.mk.inj hq5
        clear hq5
        subst e0
        subst e1
        subst e2
        subst e3
        subst e4
        subst e5
        subst e6
        subst hq6
        exact k_retV hx hb hr hlocks hP hD hS dX1_copyFrom_90
      · have h := (if_neg cc_1).symm.trans h
        refine lv_aload_n hx hb dX1_copyFrom_48 rfl (lv_at hl 0 rfl) ?_
        refine va_get (D := D) (ci := 1) (v := .ref qn_low) (C := RX1) (T := TX1) (N := 8) hx hb hu k_iX1 hown hK hP 0 rfl rfl 5 (by decide) (hu _ u_91) (fun _ h9 => h9) rfl dX1_copyFrom_49 ?_
        refine lv_iload_n hx hb dX1_copyFrom_52 rfl (lv_at hl 2 rfl) ?_
        refine lv_aload_n hx hb dX1_copyFrom_53 rfl (lv_at hl 1 rfl) ?_
        refine va_get (D := D) (ci := 1) (v := .ref qo_low) (C := RX1) (T := TX1) (N := 8) hx hb hu k_iX1 hown hK hP 4 rfl rfl 5 (by decide) (hu _ u_91) (fun _ h9 => h9) rfl dX1_copyFrom_54 ?_
        refine lv_iload_n hx hb dX1_copyFrom_57 rfl (lv_at hl 2 rfl) ?_
        obtain ⟨hin_2, h⟩ := ob_if h
        have hin_2 := inb_in hin_2
        refine va_iald (D := D) hx hb hK hP 5 0 rfl rfl hin_2 dX1_copyFrom_58 ?_
        refine va_iast (D := D) hx hb hK hP hD hS 1 0 rfl rfl hin_2 dX1_copyFrom_59 (fun H locs hP hD hS => ?_)
        have hP : va_P D vwCl [(qn, .inr (1, [.int n_nodes, .int n_links, .int n_room, .int n_alive, .int n_inMap, .ref qn_low, .ref qn_high, .ref qn_length])), (qn_low, .inl (cI, 18, .inl (upd n_low (Int32.toNatClampNeg x2) (o_low (Int32.toNatClampNeg x2))))), (qn_high, .inl (cI, 18, .inl n_high)), (qn_length, .inl (cI, 18, .inl n_length)), (qo, .inr (1, [.int o_nodes, .int o_links, .int o_room, .int o_alive, .int o_inMap, .ref qo_low, .ref qo_high, .ref qo_length])), (qo_low, .inl (cI, 18, .inl o_low)), (qo_high, .inl (cI, 18, .inl o_high)), (qo_length, .inl (cI, 18, .inl o_length))] H := hP
        have hD : va_D A [(qn, .inr (1, [.int n_nodes, .int n_links, .int n_room, .int n_alive, .int n_inMap, .ref qn_low, .ref qn_high, .ref qn_length])), (qn_low, .inl (cI, 18, .inl (upd n_low (Int32.toNatClampNeg x2) (o_low (Int32.toNatClampNeg x2))))), (qn_high, .inl (cI, 18, .inl n_high)), (qn_length, .inl (cI, 18, .inl n_length)), (qo, .inr (1, [.int o_nodes, .int o_links, .int o_room, .int o_alive, .int o_inMap, .ref qo_low, .ref qo_high, .ref qo_length])), (qo_low, .inl (cI, 18, .inl o_low)), (qo_high, .inl (cI, 18, .inl o_high)), (qo_length, .inl (cI, 18, .inl o_length))] := hD
        refine lv_aload_n hx hb dX1_copyFrom_60 rfl (lv_at hl 0 rfl) ?_
        refine va_get (D := D) (ci := 1) (v := .ref qn_high) (C := RX1) (T := TX1) (N := 8) hx hb hu k_iX1 hown hK hP 0 rfl rfl 6 (by decide) (hu _ u_95) (fun _ h9 => h9) rfl dX1_copyFrom_61 ?_
        refine lv_iload_n hx hb dX1_copyFrom_64 rfl (lv_at hl 2 rfl) ?_
        refine lv_aload_n hx hb dX1_copyFrom_65 rfl (lv_at hl 1 rfl) ?_
        refine va_get (D := D) (ci := 1) (v := .ref qo_high) (C := RX1) (T := TX1) (N := 8) hx hb hu k_iX1 hown hK hP 4 rfl rfl 6 (by decide) (hu _ u_95) (fun _ h9 => h9) rfl dX1_copyFrom_66 ?_
        refine lv_iload_n hx hb dX1_copyFrom_69 rfl (lv_at hl 2 rfl) ?_
        refine va_iald (D := D) hx hb hK hP 6 0 rfl rfl hin_2 dX1_copyFrom_70 ?_
        refine va_iast (D := D) hx hb hK hP hD hS 2 0 rfl rfl hin_2 dX1_copyFrom_71 (fun H locs hP hD hS => ?_)
        have hP : va_P D vwCl [(qn, .inr (1, [.int n_nodes, .int n_links, .int n_room, .int n_alive, .int n_inMap, .ref qn_low, .ref qn_high, .ref qn_length])), (qn_low, .inl (cI, 18, .inl (upd n_low (Int32.toNatClampNeg x2) (o_low (Int32.toNatClampNeg x2))))), (qn_high, .inl (cI, 18, .inl (upd n_high (Int32.toNatClampNeg x2) (o_high (Int32.toNatClampNeg x2))))), (qn_length, .inl (cI, 18, .inl n_length)), (qo, .inr (1, [.int o_nodes, .int o_links, .int o_room, .int o_alive, .int o_inMap, .ref qo_low, .ref qo_high, .ref qo_length])), (qo_low, .inl (cI, 18, .inl o_low)), (qo_high, .inl (cI, 18, .inl o_high)), (qo_length, .inl (cI, 18, .inl o_length))] H := hP
        have hD : va_D A [(qn, .inr (1, [.int n_nodes, .int n_links, .int n_room, .int n_alive, .int n_inMap, .ref qn_low, .ref qn_high, .ref qn_length])), (qn_low, .inl (cI, 18, .inl (upd n_low (Int32.toNatClampNeg x2) (o_low (Int32.toNatClampNeg x2))))), (qn_high, .inl (cI, 18, .inl (upd n_high (Int32.toNatClampNeg x2) (o_high (Int32.toNatClampNeg x2))))), (qn_length, .inl (cI, 18, .inl n_length)), (qo, .inr (1, [.int o_nodes, .int o_links, .int o_room, .int o_alive, .int o_inMap, .ref qo_low, .ref qo_high, .ref qo_length])), (qo_low, .inl (cI, 18, .inl o_low)), (qo_high, .inl (cI, 18, .inl o_high)), (qo_length, .inl (cI, 18, .inl o_length))] := hD
        refine lv_aload_n hx hb dX1_copyFrom_72 rfl (lv_at hl 0 rfl) ?_
        refine va_get (D := D) (ci := 1) (v := .ref qn_length) (C := RX1) (T := TX1) (N := 8) hx hb hu k_iX1 hown hK hP 0 rfl rfl 7 (by decide) (hu _ u_99) (fun _ h9 => h9) rfl dX1_copyFrom_73 ?_
        refine lv_iload_n hx hb dX1_copyFrom_76 rfl (lv_at hl 2 rfl) ?_
        refine lv_aload_n hx hb dX1_copyFrom_77 rfl (lv_at hl 1 rfl) ?_
        refine va_get (D := D) (ci := 1) (v := .ref qo_length) (C := RX1) (T := TX1) (N := 8) hx hb hu k_iX1 hown hK hP 4 rfl rfl 7 (by decide) (hu _ u_99) (fun _ h9 => h9) rfl dX1_copyFrom_78 ?_
        refine lv_iload_n hx hb dX1_copyFrom_81 rfl (lv_at hl 2 rfl) ?_
        refine va_iald (D := D) hx hb hK hP 7 0 rfl rfl hin_2 dX1_copyFrom_82 ?_
        refine va_iast (D := D) hx hb hK hP hD hS 3 0 rfl rfl hin_2 dX1_copyFrom_83 (fun H locs hP hD hS => ?_)
        have hP : va_P D vwCl [(qn, .inr (1, [.int n_nodes, .int n_links, .int n_room, .int n_alive, .int n_inMap, .ref qn_low, .ref qn_high, .ref qn_length])), (qn_low, .inl (cI, 18, .inl (upd n_low (Int32.toNatClampNeg x2) (o_low (Int32.toNatClampNeg x2))))), (qn_high, .inl (cI, 18, .inl (upd n_high (Int32.toNatClampNeg x2) (o_high (Int32.toNatClampNeg x2))))), (qn_length, .inl (cI, 18, .inl (upd n_length (Int32.toNatClampNeg x2) (o_length (Int32.toNatClampNeg x2))))), (qo, .inr (1, [.int o_nodes, .int o_links, .int o_room, .int o_alive, .int o_inMap, .ref qo_low, .ref qo_high, .ref qo_length])), (qo_low, .inl (cI, 18, .inl o_low)), (qo_high, .inl (cI, 18, .inl o_high)), (qo_length, .inl (cI, 18, .inl o_length))] H := hP
        have hD : va_D A [(qn, .inr (1, [.int n_nodes, .int n_links, .int n_room, .int n_alive, .int n_inMap, .ref qn_low, .ref qn_high, .ref qn_length])), (qn_low, .inl (cI, 18, .inl (upd n_low (Int32.toNatClampNeg x2) (o_low (Int32.toNatClampNeg x2))))), (qn_high, .inl (cI, 18, .inl (upd n_high (Int32.toNatClampNeg x2) (o_high (Int32.toNatClampNeg x2))))), (qn_length, .inl (cI, 18, .inl (upd n_length (Int32.toNatClampNeg x2) (o_length (Int32.toNatClampNeg x2))))), (qo, .inr (1, [.int o_nodes, .int o_links, .int o_room, .int o_alive, .int o_inMap, .ref qo_low, .ref qo_high, .ref qo_length])), (qo_low, .inl (cI, 18, .inl o_low)), (qo_high, .inl (cI, 18, .inl o_high)), (qo_length, .inl (cI, 18, .inl o_length))] := hD
        refine lv_iinc (v := (x2 + (1 : Int32))) (lv' := [(2, .int (x2 + (1 : Int32))), (0, .ref qn), (1, .ref qo)]) hx hb dX1_copyFrom_84 hl (k := 2) rfl rfl (by decide) rfl (fun ls hl => ?_)
        refine lv_goto (tgt := 42) hx hb dX1_copyFrom_87 (by decide) ?_
        exact ih42 (x2 + (1 : Int32)) n_nodes n_links n_room n_alive n_inMap (upd n_low (Int32.toNatClampNeg x2) (o_low (Int32.toNatClampNeg x2))) (upd n_high (Int32.toNatClampNeg x2) (o_high (Int32.toNatClampNeg x2))) (upd n_length (Int32.toNatClampNeg x2) (o_length (Int32.toNatClampNeg x2))) o_nodes o_links o_room o_alive o_inMap o_low o_high o_length _ _ _ hP hD hS (lv_sub hl [1, 2, 0] rfl) h
  refine lv_aload_n hx hb dX1_copyFrom_0 rfl (lv_at hl 0 rfl) ?_
  refine lv_aload_n hx hb dX1_copyFrom_1 rfl (lv_at hl 1 rfl) ?_
  refine va_get (D := D) (ci := 1) (v := .int o_nodes) (C := RX1) (T := TX1) (N := 8) hx hb hu k_iX1 hown hK hP 4 rfl rfl 0 (by decide) (hu _ u_73) (fun _ h9 => h9) rfl dX1_copyFrom_2 ?_
  refine va_put (D := D) (ci := 1) (v := .int o_nodes) (ty := .int) (C := RX1) (T := TX1) (N := 8) hx hb hu k_iX1 tyX1 tyX1_ok nmX1 hown hK hP hD hS 0 rfl rfl 0 (by decide) (hu _ u_73) (fun _ h9 => h9) rfl (by decide +kernel) rfl rfl (Nat.le_of_ble_eq_true rfl) dX1_copyFrom_5 (fun H locs hP hD hS => ?_)
  have hP : va_P D vwCl [(qn, .inr (1, [.int o_nodes, .int n_links, .int n_room, .int n_alive, .int n_inMap, .ref qn_low, .ref qn_high, .ref qn_length])), (qn_low, .inl (cI, 18, .inl n_low)), (qn_high, .inl (cI, 18, .inl n_high)), (qn_length, .inl (cI, 18, .inl n_length)), (qo, .inr (1, [.int o_nodes, .int o_links, .int o_room, .int o_alive, .int o_inMap, .ref qo_low, .ref qo_high, .ref qo_length])), (qo_low, .inl (cI, 18, .inl o_low)), (qo_high, .inl (cI, 18, .inl o_high)), (qo_length, .inl (cI, 18, .inl o_length))] H := hP
  have hD : va_D A [(qn, .inr (1, [.int o_nodes, .int n_links, .int n_room, .int n_alive, .int n_inMap, .ref qn_low, .ref qn_high, .ref qn_length])), (qn_low, .inl (cI, 18, .inl n_low)), (qn_high, .inl (cI, 18, .inl n_high)), (qn_length, .inl (cI, 18, .inl n_length)), (qo, .inr (1, [.int o_nodes, .int o_links, .int o_room, .int o_alive, .int o_inMap, .ref qo_low, .ref qo_high, .ref qo_length])), (qo_low, .inl (cI, 18, .inl o_low)), (qo_high, .inl (cI, 18, .inl o_high)), (qo_length, .inl (cI, 18, .inl o_length))] := hD
  refine lv_aload_n hx hb dX1_copyFrom_8 rfl (lv_at hl 0 rfl) ?_
  refine lv_aload_n hx hb dX1_copyFrom_9 rfl (lv_at hl 1 rfl) ?_
  refine va_get (D := D) (ci := 1) (v := .int o_links) (C := RX1) (T := TX1) (N := 8) hx hb hu k_iX1 hown hK hP 4 rfl rfl 1 (by decide) (hu _ u_77) (fun _ h9 => h9) rfl dX1_copyFrom_10 ?_
  refine va_put (D := D) (ci := 1) (v := .int o_links) (ty := .int) (C := RX1) (T := TX1) (N := 8) hx hb hu k_iX1 tyX1 tyX1_ok nmX1 hown hK hP hD hS 0 rfl rfl 1 (by decide) (hu _ u_77) (fun _ h9 => h9) rfl (by decide +kernel) rfl rfl (Nat.le_of_ble_eq_true rfl) dX1_copyFrom_13 (fun H locs hP hD hS => ?_)
  have hP : va_P D vwCl [(qn, .inr (1, [.int o_nodes, .int o_links, .int n_room, .int n_alive, .int n_inMap, .ref qn_low, .ref qn_high, .ref qn_length])), (qn_low, .inl (cI, 18, .inl n_low)), (qn_high, .inl (cI, 18, .inl n_high)), (qn_length, .inl (cI, 18, .inl n_length)), (qo, .inr (1, [.int o_nodes, .int o_links, .int o_room, .int o_alive, .int o_inMap, .ref qo_low, .ref qo_high, .ref qo_length])), (qo_low, .inl (cI, 18, .inl o_low)), (qo_high, .inl (cI, 18, .inl o_high)), (qo_length, .inl (cI, 18, .inl o_length))] H := hP
  have hD : va_D A [(qn, .inr (1, [.int o_nodes, .int o_links, .int n_room, .int n_alive, .int n_inMap, .ref qn_low, .ref qn_high, .ref qn_length])), (qn_low, .inl (cI, 18, .inl n_low)), (qn_high, .inl (cI, 18, .inl n_high)), (qn_length, .inl (cI, 18, .inl n_length)), (qo, .inr (1, [.int o_nodes, .int o_links, .int o_room, .int o_alive, .int o_inMap, .ref qo_low, .ref qo_high, .ref qo_length])), (qo_low, .inl (cI, 18, .inl o_low)), (qo_high, .inl (cI, 18, .inl o_high)), (qo_length, .inl (cI, 18, .inl o_length))] := hD
  refine lv_aload_n hx hb dX1_copyFrom_16 rfl (lv_at hl 0 rfl) ?_
  refine lv_aload_n hx hb dX1_copyFrom_17 rfl (lv_at hl 1 rfl) ?_
  refine va_get (D := D) (ci := 1) (v := .int o_room) (C := RX1) (T := TX1) (N := 8) hx hb hu k_iX1 hown hK hP 4 rfl rfl 2 (by decide) (hu _ u_80) (fun _ h9 => h9) rfl dX1_copyFrom_18 ?_
  refine va_put (D := D) (ci := 1) (v := .int o_room) (ty := .int) (C := RX1) (T := TX1) (N := 8) hx hb hu k_iX1 tyX1 tyX1_ok nmX1 hown hK hP hD hS 0 rfl rfl 2 (by decide) (hu _ u_80) (fun _ h9 => h9) rfl (by decide +kernel) rfl rfl (Nat.le_of_ble_eq_true rfl) dX1_copyFrom_21 (fun H locs hP hD hS => ?_)
  have hP : va_P D vwCl [(qn, .inr (1, [.int o_nodes, .int o_links, .int o_room, .int n_alive, .int n_inMap, .ref qn_low, .ref qn_high, .ref qn_length])), (qn_low, .inl (cI, 18, .inl n_low)), (qn_high, .inl (cI, 18, .inl n_high)), (qn_length, .inl (cI, 18, .inl n_length)), (qo, .inr (1, [.int o_nodes, .int o_links, .int o_room, .int o_alive, .int o_inMap, .ref qo_low, .ref qo_high, .ref qo_length])), (qo_low, .inl (cI, 18, .inl o_low)), (qo_high, .inl (cI, 18, .inl o_high)), (qo_length, .inl (cI, 18, .inl o_length))] H := hP
  have hD : va_D A [(qn, .inr (1, [.int o_nodes, .int o_links, .int o_room, .int n_alive, .int n_inMap, .ref qn_low, .ref qn_high, .ref qn_length])), (qn_low, .inl (cI, 18, .inl n_low)), (qn_high, .inl (cI, 18, .inl n_high)), (qn_length, .inl (cI, 18, .inl n_length)), (qo, .inr (1, [.int o_nodes, .int o_links, .int o_room, .int o_alive, .int o_inMap, .ref qo_low, .ref qo_high, .ref qo_length])), (qo_low, .inl (cI, 18, .inl o_low)), (qo_high, .inl (cI, 18, .inl o_high)), (qo_length, .inl (cI, 18, .inl o_length))] := hD
  refine lv_aload_n hx hb dX1_copyFrom_24 rfl (lv_at hl 0 rfl) ?_
  refine lv_aload_n hx hb dX1_copyFrom_25 rfl (lv_at hl 1 rfl) ?_
  refine va_get (D := D) (ci := 1) (v := .int o_alive) (C := RX1) (T := TX1) (N := 8) hx hb hu k_iX1 hown hK hP 4 rfl rfl 3 (by decide) (hu _ u_82) (fun _ h9 => h9) rfl dX1_copyFrom_26 ?_
  refine va_put (D := D) (ci := 1) (v := .int o_alive) (ty := .int) (C := RX1) (T := TX1) (N := 8) hx hb hu k_iX1 tyX1 tyX1_ok nmX1 hown hK hP hD hS 0 rfl rfl 3 (by decide) (hu _ u_82) (fun _ h9 => h9) rfl (by decide +kernel) rfl rfl (Nat.le_of_ble_eq_true rfl) dX1_copyFrom_29 (fun H locs hP hD hS => ?_)
  have hP : va_P D vwCl [(qn, .inr (1, [.int o_nodes, .int o_links, .int o_room, .int o_alive, .int n_inMap, .ref qn_low, .ref qn_high, .ref qn_length])), (qn_low, .inl (cI, 18, .inl n_low)), (qn_high, .inl (cI, 18, .inl n_high)), (qn_length, .inl (cI, 18, .inl n_length)), (qo, .inr (1, [.int o_nodes, .int o_links, .int o_room, .int o_alive, .int o_inMap, .ref qo_low, .ref qo_high, .ref qo_length])), (qo_low, .inl (cI, 18, .inl o_low)), (qo_high, .inl (cI, 18, .inl o_high)), (qo_length, .inl (cI, 18, .inl o_length))] H := hP
  have hD : va_D A [(qn, .inr (1, [.int o_nodes, .int o_links, .int o_room, .int o_alive, .int n_inMap, .ref qn_low, .ref qn_high, .ref qn_length])), (qn_low, .inl (cI, 18, .inl n_low)), (qn_high, .inl (cI, 18, .inl n_high)), (qn_length, .inl (cI, 18, .inl n_length)), (qo, .inr (1, [.int o_nodes, .int o_links, .int o_room, .int o_alive, .int o_inMap, .ref qo_low, .ref qo_high, .ref qo_length])), (qo_low, .inl (cI, 18, .inl o_low)), (qo_high, .inl (cI, 18, .inl o_high)), (qo_length, .inl (cI, 18, .inl o_length))] := hD
  refine lv_aload_n hx hb dX1_copyFrom_32 rfl (lv_at hl 0 rfl) ?_
  refine lv_aload_n hx hb dX1_copyFrom_33 rfl (lv_at hl 1 rfl) ?_
  refine va_get (D := D) (ci := 1) (v := .int o_inMap) (C := RX1) (T := TX1) (N := 8) hx hb hu k_iX1 hown hK hP 4 rfl rfl 4 (by decide) (hu _ u_87) (fun _ h9 => h9) rfl dX1_copyFrom_34 ?_
  refine va_put (D := D) (ci := 1) (v := .int o_inMap) (ty := .int) (C := RX1) (T := TX1) (N := 8) hx hb hu k_iX1 tyX1 tyX1_ok nmX1 hown hK hP hD hS 0 rfl rfl 4 (by decide) (hu _ u_87) (fun _ h9 => h9) rfl (by decide +kernel) rfl rfl (Nat.le_of_ble_eq_true rfl) dX1_copyFrom_37 (fun H locs hP hD hS => ?_)
  have hP : va_P D vwCl [(qn, .inr (1, [.int o_nodes, .int o_links, .int o_room, .int o_alive, .int o_inMap, .ref qn_low, .ref qn_high, .ref qn_length])), (qn_low, .inl (cI, 18, .inl n_low)), (qn_high, .inl (cI, 18, .inl n_high)), (qn_length, .inl (cI, 18, .inl n_length)), (qo, .inr (1, [.int o_nodes, .int o_links, .int o_room, .int o_alive, .int o_inMap, .ref qo_low, .ref qo_high, .ref qo_length])), (qo_low, .inl (cI, 18, .inl o_low)), (qo_high, .inl (cI, 18, .inl o_high)), (qo_length, .inl (cI, 18, .inl o_length))] H := hP
  have hD : va_D A [(qn, .inr (1, [.int o_nodes, .int o_links, .int o_room, .int o_alive, .int o_inMap, .ref qn_low, .ref qn_high, .ref qn_length])), (qn_low, .inl (cI, 18, .inl n_low)), (qn_high, .inl (cI, 18, .inl n_high)), (qn_length, .inl (cI, 18, .inl n_length)), (qo, .inr (1, [.int o_nodes, .int o_links, .int o_room, .int o_alive, .int o_inMap, .ref qo_low, .ref qo_high, .ref qo_length])), (qo_low, .inl (cI, 18, .inl o_low)), (qo_high, .inl (cI, 18, .inl o_high)), (qo_length, .inl (cI, 18, .inl o_length))] := hD
  refine lv_iconst (v := (0 : Int32)) hx hb dX1_copyFrom_40 (by decide) ?_
  refine lv_istore_n (lv' := [(2, .int (0 : Int32)), (0, .ref qn), (1, .ref qo)]) hx hb dX1_copyFrom_41 rfl hl (by decide) rfl (fun ls hl => ?_)
  exact w42 1000 (0 : Int32) o_nodes o_links o_room o_alive o_inMap n_low n_high n_length o_nodes o_links o_room o_alive o_inMap o_low o_high o_length _ _ _ hP hD hS (lv_sub hl [1, 2, 0] rfl) h
def f_X1_withoutPlace (p0 : Int32) (p1 : Int32) : Int32 :=
  ((p0 &&& (((1 : Int32) <<< (p1 &&& (31 : Int32))) - (1 : Int32))) ||| ((UInt32.toInt32 (Int32.toUInt32 p0 >>> (Int32.toUInt32 (1 : Int32) &&& Int32.toUInt32 31))) &&& ((((1 : Int32) <<< (p1 &&& (31 : Int32))) - (1 : Int32)) ^^^ (-1 : Int32))))
set_option maxHeartbeats 4000000 in
set_option maxRecDepth 100000 in
theorem c_X1_withoutPlace (l : Launch) (D : va_G) (cI cZ cN : ClassId) (aK aV : Nat → Nat)  (p0 p1 : Int32) (r : Int32) (h : f_X1_withoutPlace p0 p1 = r) : CtI l D cI cZ cN aK aV yX1_withoutPlace (k_W yX1_withoutPlace cX1_withoutPlace 3 (some .int)) { frames := 0, cells := 0, slots := 0, locals := 0 } [.int p0, .int p1] [] r [] := by
  refine k_startI (by decide) (Nat.le_of_ble_eq_true rfl) ?_
  intro p e s m below meth c A ls hx hb hr hml hown hts hlocks hT hZ hA hP hD hS hl
  have hK := hT.1
  have hu : ∀ w ∈ k_U, w.before ([.int p0, .int p1] : List Value).toArray s = true := fun w h => hts w (List.mem_cons_of_mem _ h)
  have hown : s.vm.findClass RX1 = some m.cls := hown
  have hl : lv_has ls 3 [(0, .int p0), (1, .int p1)] := hl
  unfold f_X1_withoutPlace at h
  refine lv_iconst (v := (1 : Int32)) hx hb dX1_withoutPlace_0 (by decide) ?_
  refine lv_iload_n hx hb dX1_withoutPlace_1 rfl (lv_at hl 1 rfl) ?_
  refine lv_ishl hx hb dX1_withoutPlace_2 ?_
  refine lv_iconst (v := (1 : Int32)) hx hb dX1_withoutPlace_3 (by decide) ?_
  refine lv_isub hx hb dX1_withoutPlace_4 ?_
  refine lv_istore_n (lv' := [(2, .int (((1 : Int32) <<< (p1 &&& (31 : Int32))) - (1 : Int32))), (0, .int p0), (1, .int p1)]) hx hb dX1_withoutPlace_5 rfl hl (by decide) rfl (fun ls hl => ?_)
  refine lv_iload_n hx hb dX1_withoutPlace_6 rfl (lv_at hl 1 rfl) ?_
  refine lv_iload_n hx hb dX1_withoutPlace_7 rfl (lv_at hl 0 rfl) ?_
  refine lv_iand hx hb dX1_withoutPlace_8 ?_
  refine lv_iload_n hx hb dX1_withoutPlace_9 rfl (lv_at hl 1 rfl) ?_
  refine lv_iconst (v := (1 : Int32)) hx hb dX1_withoutPlace_10 (by decide) ?_
  refine lv_iushr hx hb dX1_withoutPlace_11 rfl ?_
  refine lv_iload_n hx hb dX1_withoutPlace_12 rfl (lv_at hl 0 rfl) ?_
  refine lv_iconst (v := (-1 : Int32)) hx hb dX1_withoutPlace_13 (by decide) ?_
  refine lv_ixor hx hb dX1_withoutPlace_14 ?_
  refine lv_iand hx hb dX1_withoutPlace_15 ?_
  refine lv_ior hx hb dX1_withoutPlace_16 ?_
  have hq := h
  clear h
  subst hq
  exact k_retI hx hb hr hlocks hP hD hS dX1_withoutPlace_17
def f_X1_appendLink (p1 : Int32) (p2 : Int32) (p3 : Int32) (n_links : Int32) (n_alive : Int32) (n_inMap : Int32) (n_low : (Nat → Int32)) (n_high : (Nat → Int32)) (n_length : (Nat → Int32)) : Option (Int32 × Int32 × Int32 × (Nat → Int32) × (Nat → Int32) × (Nat → Int32)) :=
  if inb n_links 18 = true then
  some ((n_links + (1 : Int32)), (f_X5_withBit n_alive n_links (1 : Int32)), (f_X5_withBit n_inMap n_links (1 : Int32)), (upd n_low (Int32.toNatClampNeg n_links) (if p2 < p1 then p2 else p1)), (upd n_high (Int32.toNatClampNeg n_links) (if p1 < p2 then p2 else p1)), (upd n_length (Int32.toNatClampNeg n_links) p3))
  else none
set_option maxHeartbeats 4000000 in
set_option maxRecDepth 100000 in
theorem c_X1_appendLink (l : Launch) (D : va_G) (cI cZ cN : ClassId) (aK aV : Nat → Nat)  (qn : Nat) (qn_low : Nat) (qn_high : Nat) (qn_length : Nat) (n_nodes : Int32) (n_links : Int32) (n_room : Int32) (n_alive : Int32) (n_inMap : Int32) (n_low : (Nat → Int32)) (n_high : (Nat → Int32)) (n_length : (Nat → Int32)) (p1 p2 p3 : Int32) (z_n_links : Int32) (z_n_alive : Int32) (z_n_inMap : Int32) (z_n_low : (Nat → Int32)) (z_n_high : (Nat → Int32)) (z_n_length : (Nat → Int32)) (h : f_X1_appendLink p1 p2 p3 n_links n_alive n_inMap n_low n_high n_length = some (z_n_links, z_n_alive, z_n_inMap, z_n_low, z_n_high, z_n_length)) : CtV l D cI cZ cN aK aV yX1_appendLink (k_W yX1_appendLink cX1_appendLink 4 none) { frames := 1, cells := 0, slots := 0, locals := 22 } [.ref qn, .int p1, .int p2, .int p3] [(qn, .inr (1, [.int n_nodes, .int n_links, .int n_room, .int n_alive, .int n_inMap, .ref qn_low, .ref qn_high, .ref qn_length])), (qn_low, .inl (cI, 18, .inl n_low)), (qn_high, .inl (cI, 18, .inl n_high)), (qn_length, .inl (cI, 18, .inl n_length))] [(qn, .inr (1, [.int n_nodes, .int z_n_links, .int n_room, .int z_n_alive, .int z_n_inMap, .ref qn_low, .ref qn_high, .ref qn_length])), (qn_low, .inl (cI, 18, .inl z_n_low)), (qn_high, .inl (cI, 18, .inl z_n_high)), (qn_length, .inl (cI, 18, .inl z_n_length))] := by
  refine k_startV (by decide) (Nat.le_of_ble_eq_true rfl) ?_
  intro p e s m below meth c A ls hx hb hr hml hown hts hlocks hT hZ hA hP hD hS hl
  have hK := hT.1
  have hu : ∀ w ∈ k_U, w.before ([.ref qn, .int p1, .int p2, .int p3] : List Value).toArray s = true := fun w h => hts w (List.mem_cons_of_mem _ h)
  have hown : s.vm.findClass RX1 = some m.cls := hown
  have hl : lv_has ls 4 [(0, .ref qn), (1, .int p1), (2, .int p2), (3, .int p3)] := hl
  unfold f_X1_appendLink at h
  refine lv_aload_n hx hb dX1_appendLink_0 rfl (lv_at hl 0 rfl) ?_
  refine va_get (D := D) (ci := 1) (v := .ref qn_low) (C := RX1) (T := TX1) (N := 8) hx hb hu k_iX1 hown hK hP 0 rfl rfl 5 (by decide) (hu _ u_91) (fun _ h9 => h9) rfl dX1_appendLink_1 ?_
  refine lv_aload_n hx hb dX1_appendLink_4 rfl (lv_at hl 0 rfl) ?_
  refine va_get (D := D) (ci := 1) (v := .int n_links) (C := RX1) (T := TX1) (N := 8) hx hb hu k_iX1 hown hK hP 0 rfl rfl 1 (by decide) (hu _ u_77) (fun _ h9 => h9) rfl dX1_appendLink_5 ?_
  refine lv_iload_n hx hb dX1_appendLink_8 rfl (lv_at hl 1 rfl) ?_
  refine lv_iload_n hx hb dX1_appendLink_9 rfl (lv_at hl 2 rfl) ?_
  refine va_mmin hx hb (hml.trans hl.1.symm) hown (hu _ u_356) (hu _ u_357) (hu _ u_52) (hu _ u_358) (Nat.le_of_ble_eq_true rfl) (Nat.le_of_ble_eq_true rfl) (Nat.zero_le _) (Nat.zero_le _) dX1_appendLink_10 ?_
  obtain ⟨hin_1, h⟩ := ob_if h
  have hin_1 := inb_in hin_1
  refine va_iast (D := D) hx hb hK hP hD hS 1 0 rfl rfl hin_1 dX1_appendLink_13 (fun H locs hP hD hS => ?_)
  have hP : va_P D vwCl [(qn, .inr (1, [.int n_nodes, .int n_links, .int n_room, .int n_alive, .int n_inMap, .ref qn_low, .ref qn_high, .ref qn_length])), (qn_low, .inl (cI, 18, .inl (upd n_low (Int32.toNatClampNeg n_links) (if p2 < p1 then p2 else p1)))), (qn_high, .inl (cI, 18, .inl n_high)), (qn_length, .inl (cI, 18, .inl n_length))] H := hP
  have hD : va_D A [(qn, .inr (1, [.int n_nodes, .int n_links, .int n_room, .int n_alive, .int n_inMap, .ref qn_low, .ref qn_high, .ref qn_length])), (qn_low, .inl (cI, 18, .inl (upd n_low (Int32.toNatClampNeg n_links) (if p2 < p1 then p2 else p1)))), (qn_high, .inl (cI, 18, .inl n_high)), (qn_length, .inl (cI, 18, .inl n_length))] := hD
  refine lv_aload_n hx hb dX1_appendLink_14 rfl (lv_at hl 0 rfl) ?_
  refine va_get (D := D) (ci := 1) (v := .ref qn_high) (C := RX1) (T := TX1) (N := 8) hx hb hu k_iX1 hown hK hP 0 rfl rfl 6 (by decide) (hu _ u_95) (fun _ h9 => h9) rfl dX1_appendLink_15 ?_
  refine lv_aload_n hx hb dX1_appendLink_18 rfl (lv_at hl 0 rfl) ?_
  refine va_get (D := D) (ci := 1) (v := .int n_links) (C := RX1) (T := TX1) (N := 8) hx hb hu k_iX1 hown hK hP 0 rfl rfl 1 (by decide) (hu _ u_77) (fun _ h9 => h9) rfl dX1_appendLink_19 ?_
  refine lv_iload_n hx hb dX1_appendLink_22 rfl (lv_at hl 1 rfl) ?_
  refine lv_iload_n hx hb dX1_appendLink_23 rfl (lv_at hl 2 rfl) ?_
  refine va_mmax hx hb (hml.trans hl.1.symm) hown (hu _ u_359) (hu _ u_360) (hu _ u_52) (hu _ u_361) (Nat.le_of_ble_eq_true rfl) (Nat.le_of_ble_eq_true rfl) (Nat.zero_le _) (Nat.zero_le _) dX1_appendLink_24 ?_
  refine va_iast (D := D) hx hb hK hP hD hS 2 0 rfl rfl hin_1 dX1_appendLink_27 (fun H locs hP hD hS => ?_)
  have hP : va_P D vwCl [(qn, .inr (1, [.int n_nodes, .int n_links, .int n_room, .int n_alive, .int n_inMap, .ref qn_low, .ref qn_high, .ref qn_length])), (qn_low, .inl (cI, 18, .inl (upd n_low (Int32.toNatClampNeg n_links) (if p2 < p1 then p2 else p1)))), (qn_high, .inl (cI, 18, .inl (upd n_high (Int32.toNatClampNeg n_links) (if p1 < p2 then p2 else p1)))), (qn_length, .inl (cI, 18, .inl n_length))] H := hP
  have hD : va_D A [(qn, .inr (1, [.int n_nodes, .int n_links, .int n_room, .int n_alive, .int n_inMap, .ref qn_low, .ref qn_high, .ref qn_length])), (qn_low, .inl (cI, 18, .inl (upd n_low (Int32.toNatClampNeg n_links) (if p2 < p1 then p2 else p1)))), (qn_high, .inl (cI, 18, .inl (upd n_high (Int32.toNatClampNeg n_links) (if p1 < p2 then p2 else p1)))), (qn_length, .inl (cI, 18, .inl n_length))] := hD
  refine lv_aload_n hx hb dX1_appendLink_28 rfl (lv_at hl 0 rfl) ?_
  refine va_get (D := D) (ci := 1) (v := .ref qn_length) (C := RX1) (T := TX1) (N := 8) hx hb hu k_iX1 hown hK hP 0 rfl rfl 7 (by decide) (hu _ u_99) (fun _ h9 => h9) rfl dX1_appendLink_29 ?_
  refine lv_aload_n hx hb dX1_appendLink_32 rfl (lv_at hl 0 rfl) ?_
  refine va_get (D := D) (ci := 1) (v := .int n_links) (C := RX1) (T := TX1) (N := 8) hx hb hu k_iX1 hown hK hP 0 rfl rfl 1 (by decide) (hu _ u_77) (fun _ h9 => h9) rfl dX1_appendLink_33 ?_
  refine lv_iload_n hx hb dX1_appendLink_36 rfl (lv_at hl 3 rfl) ?_
  refine va_iast (D := D) hx hb hK hP hD hS 3 0 rfl rfl hin_1 dX1_appendLink_37 (fun H locs hP hD hS => ?_)
  have hP : va_P D vwCl [(qn, .inr (1, [.int n_nodes, .int n_links, .int n_room, .int n_alive, .int n_inMap, .ref qn_low, .ref qn_high, .ref qn_length])), (qn_low, .inl (cI, 18, .inl (upd n_low (Int32.toNatClampNeg n_links) (if p2 < p1 then p2 else p1)))), (qn_high, .inl (cI, 18, .inl (upd n_high (Int32.toNatClampNeg n_links) (if p1 < p2 then p2 else p1)))), (qn_length, .inl (cI, 18, .inl (upd n_length (Int32.toNatClampNeg n_links) p3)))] H := hP
  have hD : va_D A [(qn, .inr (1, [.int n_nodes, .int n_links, .int n_room, .int n_alive, .int n_inMap, .ref qn_low, .ref qn_high, .ref qn_length])), (qn_low, .inl (cI, 18, .inl (upd n_low (Int32.toNatClampNeg n_links) (if p2 < p1 then p2 else p1)))), (qn_high, .inl (cI, 18, .inl (upd n_high (Int32.toNatClampNeg n_links) (if p1 < p2 then p2 else p1)))), (qn_length, .inl (cI, 18, .inl (upd n_length (Int32.toNatClampNeg n_links) p3)))] := hD
  refine lv_aload_n hx hb dX1_appendLink_38 rfl (lv_at hl 0 rfl) ?_
  refine lv_aload_n hx hb dX1_appendLink_39 rfl (lv_at hl 0 rfl) ?_
  refine va_get (D := D) (ci := 1) (v := .int n_alive) (C := RX1) (T := TX1) (N := 8) hx hb hu k_iX1 hown hK hP 0 rfl rfl 3 (by decide) (hu _ u_82) (fun _ h9 => h9) rfl dX1_appendLink_40 ?_
  refine lv_aload_n hx hb dX1_appendLink_43 rfl (lv_at hl 0 rfl) ?_
  refine va_get (D := D) (ci := 1) (v := .int n_links) (C := RX1) (T := TX1) (N := 8) hx hb hu k_iX1 hown hK hP 0 rfl rfl 1 (by decide) (hu _ u_77) (fun _ h9 => h9) rfl dX1_appendLink_44 ?_
  refine lv_iconst (v := (1 : Int32)) hx hb dX1_appendLink_47 (by decide) ?_
  refine k_call0N (As := [.int n_alive, .int n_links, .int (1 : Int32)]) (rest := [.ref qn]) ⟨hx, hb, hml, hown, hts⟩ hT hZ hA hP hD hS (c_X5_withBit l D cI cZ cN aK aV n_alive n_links (1 : Int32) _ rfl) ⟨va_cnB 3 hts (k_good u_368) rfl rfl rfl hT.2.2.2.2.1 (hu _ u_45) (by decide +kernel) ⟨Nat.le_of_ble_eq_true rfl, Nat.le_of_ble_eq_true rfl⟩, hu _ u_367, trivial⟩ rfl hl.1 rfl (Nat.le_of_ble_eq_true rfl) dX1_appendLink_48 (fun H locs hP hD hS => ?_)
  refine va_put (D := D) (ci := 1) (v := .int (f_X5_withBit n_alive n_links (1 : Int32))) (ty := .int) (C := RX1) (T := TX1) (N := 8) hx hb hu k_iX1 tyX1 tyX1_ok nmX1 hown hK hP hD hS 0 rfl rfl 3 (by decide) (hu _ u_82) (fun _ h9 => h9) rfl (by decide +kernel) rfl rfl (Nat.le_of_ble_eq_true rfl) dX1_appendLink_51 (fun H locs hP hD hS => ?_)
  have hP : va_P D vwCl [(qn, .inr (1, [.int n_nodes, .int n_links, .int n_room, .int (f_X5_withBit n_alive n_links (1 : Int32)), .int n_inMap, .ref qn_low, .ref qn_high, .ref qn_length])), (qn_low, .inl (cI, 18, .inl (upd n_low (Int32.toNatClampNeg n_links) (if p2 < p1 then p2 else p1)))), (qn_high, .inl (cI, 18, .inl (upd n_high (Int32.toNatClampNeg n_links) (if p1 < p2 then p2 else p1)))), (qn_length, .inl (cI, 18, .inl (upd n_length (Int32.toNatClampNeg n_links) p3)))] H := hP
  have hD : va_D A [(qn, .inr (1, [.int n_nodes, .int n_links, .int n_room, .int (f_X5_withBit n_alive n_links (1 : Int32)), .int n_inMap, .ref qn_low, .ref qn_high, .ref qn_length])), (qn_low, .inl (cI, 18, .inl (upd n_low (Int32.toNatClampNeg n_links) (if p2 < p1 then p2 else p1)))), (qn_high, .inl (cI, 18, .inl (upd n_high (Int32.toNatClampNeg n_links) (if p1 < p2 then p2 else p1)))), (qn_length, .inl (cI, 18, .inl (upd n_length (Int32.toNatClampNeg n_links) p3)))] := hD
  refine lv_aload_n hx hb dX1_appendLink_54 rfl (lv_at hl 0 rfl) ?_
  refine lv_aload_n hx hb dX1_appendLink_55 rfl (lv_at hl 0 rfl) ?_
  refine va_get (D := D) (ci := 1) (v := .int n_inMap) (C := RX1) (T := TX1) (N := 8) hx hb hu k_iX1 hown hK hP 0 rfl rfl 4 (by decide) (hu _ u_87) (fun _ h9 => h9) rfl dX1_appendLink_56 ?_
  refine lv_aload_n hx hb dX1_appendLink_59 rfl (lv_at hl 0 rfl) ?_
  refine va_get (D := D) (ci := 1) (v := .int n_links) (C := RX1) (T := TX1) (N := 8) hx hb hu k_iX1 hown hK hP 0 rfl rfl 1 (by decide) (hu _ u_77) (fun _ h9 => h9) rfl dX1_appendLink_60 ?_
  refine lv_iconst (v := (1 : Int32)) hx hb dX1_appendLink_63 (by decide) ?_
  refine k_call0N (As := [.int n_inMap, .int n_links, .int (1 : Int32)]) (rest := [.ref qn]) ⟨hx, hb, hml, hown, hts⟩ hT hZ hA hP hD hS (c_X5_withBit l D cI cZ cN aK aV n_inMap n_links (1 : Int32) _ rfl) ⟨va_cnB 3 hts (k_good u_368) rfl rfl rfl hT.2.2.2.2.1 (hu _ u_45) (by decide +kernel) ⟨Nat.le_of_ble_eq_true rfl, Nat.le_of_ble_eq_true rfl⟩, hu _ u_367, trivial⟩ rfl hl.1 rfl (Nat.le_of_ble_eq_true rfl) dX1_appendLink_64 (fun H locs hP hD hS => ?_)
  refine va_put (D := D) (ci := 1) (v := .int (f_X5_withBit n_inMap n_links (1 : Int32))) (ty := .int) (C := RX1) (T := TX1) (N := 8) hx hb hu k_iX1 tyX1 tyX1_ok nmX1 hown hK hP hD hS 0 rfl rfl 4 (by decide) (hu _ u_87) (fun _ h9 => h9) rfl (by decide +kernel) rfl rfl (Nat.le_of_ble_eq_true rfl) dX1_appendLink_67 (fun H locs hP hD hS => ?_)
  have hP : va_P D vwCl [(qn, .inr (1, [.int n_nodes, .int n_links, .int n_room, .int (f_X5_withBit n_alive n_links (1 : Int32)), .int (f_X5_withBit n_inMap n_links (1 : Int32)), .ref qn_low, .ref qn_high, .ref qn_length])), (qn_low, .inl (cI, 18, .inl (upd n_low (Int32.toNatClampNeg n_links) (if p2 < p1 then p2 else p1)))), (qn_high, .inl (cI, 18, .inl (upd n_high (Int32.toNatClampNeg n_links) (if p1 < p2 then p2 else p1)))), (qn_length, .inl (cI, 18, .inl (upd n_length (Int32.toNatClampNeg n_links) p3)))] H := hP
  have hD : va_D A [(qn, .inr (1, [.int n_nodes, .int n_links, .int n_room, .int (f_X5_withBit n_alive n_links (1 : Int32)), .int (f_X5_withBit n_inMap n_links (1 : Int32)), .ref qn_low, .ref qn_high, .ref qn_length])), (qn_low, .inl (cI, 18, .inl (upd n_low (Int32.toNatClampNeg n_links) (if p2 < p1 then p2 else p1)))), (qn_high, .inl (cI, 18, .inl (upd n_high (Int32.toNatClampNeg n_links) (if p1 < p2 then p2 else p1)))), (qn_length, .inl (cI, 18, .inl (upd n_length (Int32.toNatClampNeg n_links) p3)))] := hD
  refine lv_aload_n hx hb dX1_appendLink_70 rfl (lv_at hl 0 rfl) ?_
  refine lv_dup hx hb dX1_appendLink_71 rfl ?_
  refine va_get (D := D) (ci := 1) (v := .int n_links) (C := RX1) (T := TX1) (N := 8) hx hb hu k_iX1 hown hK hP 0 rfl rfl 1 (by decide) (hu _ u_77) (fun _ h9 => h9) rfl dX1_appendLink_72 ?_
  refine lv_iconst (v := (1 : Int32)) hx hb dX1_appendLink_75 (by decide) ?_
  refine lv_iadd hx hb dX1_appendLink_76 ?_
  refine va_put (D := D) (ci := 1) (v := .int (n_links + (1 : Int32))) (ty := .int) (C := RX1) (T := TX1) (N := 8) hx hb hu k_iX1 tyX1 tyX1_ok nmX1 hown hK hP hD hS 0 rfl rfl 1 (by decide) (hu _ u_77) (fun _ h9 => h9) rfl (by decide +kernel) rfl rfl (Nat.le_of_ble_eq_true rfl) dX1_appendLink_77 (fun H locs hP hD hS => ?_)
  have hP : va_P D vwCl [(qn, .inr (1, [.int n_nodes, .int (n_links + (1 : Int32)), .int n_room, .int (f_X5_withBit n_alive n_links (1 : Int32)), .int (f_X5_withBit n_inMap n_links (1 : Int32)), .ref qn_low, .ref qn_high, .ref qn_length])), (qn_low, .inl (cI, 18, .inl (upd n_low (Int32.toNatClampNeg n_links) (if p2 < p1 then p2 else p1)))), (qn_high, .inl (cI, 18, .inl (upd n_high (Int32.toNatClampNeg n_links) (if p1 < p2 then p2 else p1)))), (qn_length, .inl (cI, 18, .inl (upd n_length (Int32.toNatClampNeg n_links) p3)))] H := hP
  have hD : va_D A [(qn, .inr (1, [.int n_nodes, .int (n_links + (1 : Int32)), .int n_room, .int (f_X5_withBit n_alive n_links (1 : Int32)), .int (f_X5_withBit n_inMap n_links (1 : Int32)), .ref qn_low, .ref qn_high, .ref qn_length])), (qn_low, .inl (cI, 18, .inl (upd n_low (Int32.toNatClampNeg n_links) (if p2 < p1 then p2 else p1)))), (qn_high, .inl (cI, 18, .inl (upd n_high (Int32.toNatClampNeg n_links) (if p1 < p2 then p2 else p1)))), (qn_length, .inl (cI, 18, .inl (upd n_length (Int32.toNatClampNeg n_links) p3)))] := hD
  have hq := Option.some.inj h
  clear h
  obtain ⟨e0, hq0⟩ := Prod.mk.inj hq
  clear hq
  obtain ⟨e1, hq1⟩ := Prod.mk.inj hq0
  clear hq0
  obtain ⟨e2, hq2⟩ := Prod.mk.inj hq1
  clear hq1
  obtain ⟨e3, hq3⟩ := Prod.mk.inj hq2
  clear hq2
  obtain ⟨e4, hq4⟩ := Prod.mk.inj hq3
  clear hq3
  subst e0
  subst e1
  subst e2
  subst e3
  subst e4
  subst hq4
  exact k_retV hx hb hr hlocks hP hD hS dX1_appendLink_80
def f_X1_dropLink_b2  : Nat → Int32 → Int32 → Int32 → Int32 → Int32 → (Nat → Int32) → (Nat → Int32) → (Nat → Int32) → Option (Int32 × Int32 × Int32 × (Nat → Int32) × (Nat → Int32) × (Nat → Int32))
  | 0, _, _, _, _, _, _, _, _ => none
  | n + 1, x1, x2, n_links, n_alive, n_inMap, n_low, n_high, n_length =>
    if n_links ≤ (x2 + (1 : Int32)) then
      some ((n_links - (1 : Int32)), (f_X1_withoutPlace n_alive x1), (f_X1_withoutPlace n_inMap x1), n_low, n_high, n_length)
    else
      if inb (x2 + (1 : Int32)) 18 = true then
      if inb x2 18 = true then
      (f_X1_dropLink_b2 n) x1 (x2 + (1 : Int32)) n_links n_alive n_inMap (upd n_low (Int32.toNatClampNeg x2) (n_low (Int32.toNatClampNeg (x2 + (1 : Int32))))) (upd n_high (Int32.toNatClampNeg x2) (n_high (Int32.toNatClampNeg (x2 + (1 : Int32))))) (upd n_length (Int32.toNatClampNeg x2) (n_length (Int32.toNatClampNeg (x2 + (1 : Int32)))))
      else none
      else none
def f_X1_dropLink (p1 : Int32) (n_links : Int32) (n_alive : Int32) (n_inMap : Int32) (n_low : (Nat → Int32)) (n_high : (Nat → Int32)) (n_length : (Nat → Int32)) : Option (Int32 × Int32 × Int32 × (Nat → Int32) × (Nat → Int32) × (Nat → Int32)) :=
  f_X1_dropLink_b2 1000 p1 p1 n_links n_alive n_inMap n_low n_high n_length
set_option maxHeartbeats 4000000 in
set_option maxRecDepth 100000 in
theorem c_X1_dropLink (l : Launch) (D : va_G) (cI cZ cN : ClassId) (aK aV : Nat → Nat)  (qn : Nat) (qn_low : Nat) (qn_high : Nat) (qn_length : Nat) (n_nodes : Int32) (n_links : Int32) (n_room : Int32) (n_alive : Int32) (n_inMap : Int32) (n_low : (Nat → Int32)) (n_high : (Nat → Int32)) (n_length : (Nat → Int32)) (p1 : Int32) (z_n_links : Int32) (z_n_alive : Int32) (z_n_inMap : Int32) (z_n_low : (Nat → Int32)) (z_n_high : (Nat → Int32)) (z_n_length : (Nat → Int32)) (h : f_X1_dropLink p1 n_links n_alive n_inMap n_low n_high n_length = some (z_n_links, z_n_alive, z_n_inMap, z_n_low, z_n_high, z_n_length)) : CtV l D cI cZ cN aK aV yX1_dropLink (k_W yX1_dropLink cX1_dropLink 3 none) { frames := 1, cells := 0, slots := 0, locals := 22 } [.ref qn, .int p1] [(qn, .inr (1, [.int n_nodes, .int n_links, .int n_room, .int n_alive, .int n_inMap, .ref qn_low, .ref qn_high, .ref qn_length])), (qn_low, .inl (cI, 18, .inl n_low)), (qn_high, .inl (cI, 18, .inl n_high)), (qn_length, .inl (cI, 18, .inl n_length))] [(qn, .inr (1, [.int n_nodes, .int z_n_links, .int n_room, .int z_n_alive, .int z_n_inMap, .ref qn_low, .ref qn_high, .ref qn_length])), (qn_low, .inl (cI, 18, .inl z_n_low)), (qn_high, .inl (cI, 18, .inl z_n_high)), (qn_length, .inl (cI, 18, .inl z_n_length))] := by
  refine k_startV (by decide) (Nat.le_of_ble_eq_true rfl) ?_
  intro p e s m below meth c A ls hx hb hr hml hown hts hlocks hT hZ hA hP hD hS hl
  have hK := hT.1
  have hu : ∀ w ∈ k_U, w.before ([.ref qn, .int p1] : List Value).toArray s = true := fun w h => hts w (List.mem_cons_of_mem _ h)
  have hown : s.vm.findClass RX1 = some m.cls := hown
  have hl : lv_has ls 3 [(0, .ref qn), (1, .int p1)] := hl
  unfold f_X1_dropLink at h
  have w2 : ∀ (n2 : Nat) (x1 : Int32) (x2 : Int32) (n_links : Int32) (n_alive : Int32) (n_inMap : Int32) (n_low : (Nat → Int32)) (n_high : (Nat → Int32)) (n_length : (Nat → Int32)) (H : Heap) (locs : List Loc) (ls : Array Slot), va_P D vwCl [(qn, .inr (1, [.int n_nodes, .int n_links, .int n_room, .int n_alive, .int n_inMap, .ref qn_low, .ref qn_high, .ref qn_length])), (qn_low, .inl (cI, 18, .inl n_low)), (qn_high, .inl (cI, 18, .inl n_high)), (qn_length, .inl (cI, 18, .inl n_length))] H → va_D A [(qn, .inr (1, [.int n_nodes, .int n_links, .int n_room, .int n_alive, .int n_inMap, .ref qn_low, .ref qn_high, .ref qn_length])), (qn_low, .inl (cI, 18, .inl n_low)), (qn_high, .inl (cI, 18, .inl n_high)), (qn_length, .inl (cI, 18, .inl n_length))] → va_S A s.heap H locs → lv_has ls 3 [(0, .ref qn), (1, .int x1), (2, .int x2)] → f_X1_dropLink_b2 n2 x1 x2 n_links n_alive n_inMap n_low n_high n_length = some (z_n_links, z_n_alive, z_n_inMap, z_n_low, z_n_high, z_n_length) → W p l e { frames := 1, cells := 0, slots := 0, locals := 22 } s m ([.ref qn, .int p1] : List Value).toArray below meth c H locs 0 0 (MQ below (k_QV D [(qn, .inr (1, [.int n_nodes, .int z_n_links, .int n_room, .int z_n_alive, .int z_n_inMap, .ref qn_low, .ref qn_high, .ref qn_length])), (qn_low, .inl (cI, 18, .inl z_n_low)), (qn_high, .inl (cI, 18, .inl z_n_high)), (qn_length, .inl (cI, 18, .inl z_n_length))] A) ([.ref qn, .int p1] : List Value).toArray s 0 0 A) (F0 m 2 ls []) := by
    intro n2
    induction n2 with
    | zero =>
      intro x1 x2 n_links n_alive n_inMap n_low n_high n_length H locs ls hP hD hS hl h
      rw [f_X1_dropLink_b2] at h
      cases h
    | succ n2 ih2 =>
      intro x1 x2 n_links n_alive n_inMap n_low n_high n_length H locs ls hP hD hS hl h
      rw [f_X1_dropLink_b2] at h
      refine lv_iload_n hx hb dX1_dropLink_2 rfl (lv_at hl 2 rfl) ?_
      refine lv_iconst (v := (1 : Int32)) hx hb dX1_dropLink_3 (by decide) ?_
      refine lv_iadd hx hb dX1_dropLink_4 ?_
      refine lv_aload_n hx hb dX1_dropLink_5 rfl (lv_at hl 0 rfl) ?_
      refine va_get (D := D) (ci := 1) (v := .int n_links) (C := RX1) (T := TX1) (N := 8) hx hb hu k_iX1 hown hK hP 0 rfl rfl 1 (by decide) (hu _ u_77) (fun _ h9 => h9) rfl dX1_dropLink_6 ?_
      refine lv_icmp_ge (tgt := 60) hx hb dX1_dropLink_9 (by decide) (fun cc_1 => ?_) (fun cc_1 => ?_)
      · have h := (if_pos cc_1).symm.trans h
        refine lv_aload_n hx hb dX1_dropLink_60 rfl (lv_at hl 0 rfl) ?_
        refine lv_aload_n hx hb dX1_dropLink_61 rfl (lv_at hl 0 rfl) ?_
        refine va_get (D := D) (ci := 1) (v := .int n_alive) (C := RX1) (T := TX1) (N := 8) hx hb hu k_iX1 hown hK hP 0 rfl rfl 3 (by decide) (hu _ u_82) (fun _ h9 => h9) rfl dX1_dropLink_62 ?_
        refine lv_iload_n hx hb dX1_dropLink_65 rfl (lv_at hl 1 rfl) ?_
        refine k_call0 (As := [.int n_alive, .int x1]) (rest := [.ref qn]) ⟨hx, hb, hml, hown, hts⟩ hT hZ hA hP hD hS (c_X1_withoutPlace l D cI cZ cN aK aV n_alive x1 _ rfl) ⟨callB_of 2 hts (k_good u_383) rfl rfl rfl (hu _ u_46) (hu _ u_381) (by decide +kernel) ⟨Nat.le_of_ble_eq_true rfl, Nat.le_of_ble_eq_true rfl⟩, hu _ u_382⟩ rfl hl.1 rfl (Nat.le_of_ble_eq_true rfl) dX1_dropLink_66 (fun H locs hP hD hS => ?_)
        refine va_put (D := D) (ci := 1) (v := .int (f_X1_withoutPlace n_alive x1)) (ty := .int) (C := RX1) (T := TX1) (N := 8) hx hb hu k_iX1 tyX1 tyX1_ok nmX1 hown hK hP hD hS 0 rfl rfl 3 (by decide) (hu _ u_82) (fun _ h9 => h9) rfl (by decide +kernel) rfl rfl (Nat.le_of_ble_eq_true rfl) dX1_dropLink_69 (fun H locs hP hD hS => ?_)
        have hP : va_P D vwCl [(qn, .inr (1, [.int n_nodes, .int n_links, .int n_room, .int (f_X1_withoutPlace n_alive x1), .int n_inMap, .ref qn_low, .ref qn_high, .ref qn_length])), (qn_low, .inl (cI, 18, .inl n_low)), (qn_high, .inl (cI, 18, .inl n_high)), (qn_length, .inl (cI, 18, .inl n_length))] H := hP
        have hD : va_D A [(qn, .inr (1, [.int n_nodes, .int n_links, .int n_room, .int (f_X1_withoutPlace n_alive x1), .int n_inMap, .ref qn_low, .ref qn_high, .ref qn_length])), (qn_low, .inl (cI, 18, .inl n_low)), (qn_high, .inl (cI, 18, .inl n_high)), (qn_length, .inl (cI, 18, .inl n_length))] := hD
        refine lv_aload_n hx hb dX1_dropLink_72 rfl (lv_at hl 0 rfl) ?_
        refine lv_aload_n hx hb dX1_dropLink_73 rfl (lv_at hl 0 rfl) ?_
        refine va_get (D := D) (ci := 1) (v := .int n_inMap) (C := RX1) (T := TX1) (N := 8) hx hb hu k_iX1 hown hK hP 0 rfl rfl 4 (by decide) (hu _ u_87) (fun _ h9 => h9) rfl dX1_dropLink_74 ?_
        refine lv_iload_n hx hb dX1_dropLink_77 rfl (lv_at hl 1 rfl) ?_
        refine k_call0 (As := [.int n_inMap, .int x1]) (rest := [.ref qn]) ⟨hx, hb, hml, hown, hts⟩ hT hZ hA hP hD hS (c_X1_withoutPlace l D cI cZ cN aK aV n_inMap x1 _ rfl) ⟨callB_of 2 hts (k_good u_383) rfl rfl rfl (hu _ u_46) (hu _ u_381) (by decide +kernel) ⟨Nat.le_of_ble_eq_true rfl, Nat.le_of_ble_eq_true rfl⟩, hu _ u_382⟩ rfl hl.1 rfl (Nat.le_of_ble_eq_true rfl) dX1_dropLink_78 (fun H locs hP hD hS => ?_)
        refine va_put (D := D) (ci := 1) (v := .int (f_X1_withoutPlace n_inMap x1)) (ty := .int) (C := RX1) (T := TX1) (N := 8) hx hb hu k_iX1 tyX1 tyX1_ok nmX1 hown hK hP hD hS 0 rfl rfl 4 (by decide) (hu _ u_87) (fun _ h9 => h9) rfl (by decide +kernel) rfl rfl (Nat.le_of_ble_eq_true rfl) dX1_dropLink_81 (fun H locs hP hD hS => ?_)
        have hP : va_P D vwCl [(qn, .inr (1, [.int n_nodes, .int n_links, .int n_room, .int (f_X1_withoutPlace n_alive x1), .int (f_X1_withoutPlace n_inMap x1), .ref qn_low, .ref qn_high, .ref qn_length])), (qn_low, .inl (cI, 18, .inl n_low)), (qn_high, .inl (cI, 18, .inl n_high)), (qn_length, .inl (cI, 18, .inl n_length))] H := hP
        have hD : va_D A [(qn, .inr (1, [.int n_nodes, .int n_links, .int n_room, .int (f_X1_withoutPlace n_alive x1), .int (f_X1_withoutPlace n_inMap x1), .ref qn_low, .ref qn_high, .ref qn_length])), (qn_low, .inl (cI, 18, .inl n_low)), (qn_high, .inl (cI, 18, .inl n_high)), (qn_length, .inl (cI, 18, .inl n_length))] := hD
        refine lv_aload_n hx hb dX1_dropLink_84 rfl (lv_at hl 0 rfl) ?_
        refine lv_dup hx hb dX1_dropLink_85 rfl ?_
        refine va_get (D := D) (ci := 1) (v := .int n_links) (C := RX1) (T := TX1) (N := 8) hx hb hu k_iX1 hown hK hP 0 rfl rfl 1 (by decide) (hu _ u_77) (fun _ h9 => h9) rfl dX1_dropLink_86 ?_
        refine lv_iconst (v := (1 : Int32)) hx hb dX1_dropLink_89 (by decide) ?_
        refine lv_isub hx hb dX1_dropLink_90 ?_
        refine va_put (D := D) (ci := 1) (v := .int (n_links - (1 : Int32))) (ty := .int) (C := RX1) (T := TX1) (N := 8) hx hb hu k_iX1 tyX1 tyX1_ok nmX1 hown hK hP hD hS 0 rfl rfl 1 (by decide) (hu _ u_77) (fun _ h9 => h9) rfl (by decide +kernel) rfl rfl (Nat.le_of_ble_eq_true rfl) dX1_dropLink_91 (fun H locs hP hD hS => ?_)
        have hP : va_P D vwCl [(qn, .inr (1, [.int n_nodes, .int (n_links - (1 : Int32)), .int n_room, .int (f_X1_withoutPlace n_alive x1), .int (f_X1_withoutPlace n_inMap x1), .ref qn_low, .ref qn_high, .ref qn_length])), (qn_low, .inl (cI, 18, .inl n_low)), (qn_high, .inl (cI, 18, .inl n_high)), (qn_length, .inl (cI, 18, .inl n_length))] H := hP
        have hD : va_D A [(qn, .inr (1, [.int n_nodes, .int (n_links - (1 : Int32)), .int n_room, .int (f_X1_withoutPlace n_alive x1), .int (f_X1_withoutPlace n_inMap x1), .ref qn_low, .ref qn_high, .ref qn_length])), (qn_low, .inl (cI, 18, .inl n_low)), (qn_high, .inl (cI, 18, .inl n_high)), (qn_length, .inl (cI, 18, .inl n_length))] := hD
        have hq := Option.some.inj h
        clear h
        obtain ⟨e0, hq0⟩ := Prod.mk.inj hq
        clear hq
        obtain ⟨e1, hq1⟩ := Prod.mk.inj hq0
        clear hq0
        obtain ⟨e2, hq2⟩ := Prod.mk.inj hq1
        clear hq1
        obtain ⟨e3, hq3⟩ := Prod.mk.inj hq2
        clear hq2
        obtain ⟨e4, hq4⟩ := Prod.mk.inj hq3
        clear hq3
        subst e0
        subst e1
        subst e2
        subst e3
        subst e4
        subst hq4
        exact k_retV hx hb hr hlocks hP hD hS dX1_dropLink_94
      · have h := (if_neg cc_1).symm.trans h
        refine lv_aload_n hx hb dX1_dropLink_12 rfl (lv_at hl 0 rfl) ?_
        refine va_get (D := D) (ci := 1) (v := .ref qn_low) (C := RX1) (T := TX1) (N := 8) hx hb hu k_iX1 hown hK hP 0 rfl rfl 5 (by decide) (hu _ u_91) (fun _ h9 => h9) rfl dX1_dropLink_13 ?_
        refine lv_iload_n hx hb dX1_dropLink_16 rfl (lv_at hl 2 rfl) ?_
        refine lv_aload_n hx hb dX1_dropLink_17 rfl (lv_at hl 0 rfl) ?_
        refine va_get (D := D) (ci := 1) (v := .ref qn_low) (C := RX1) (T := TX1) (N := 8) hx hb hu k_iX1 hown hK hP 0 rfl rfl 5 (by decide) (hu _ u_91) (fun _ h9 => h9) rfl dX1_dropLink_18 ?_
        refine lv_iload_n hx hb dX1_dropLink_21 rfl (lv_at hl 2 rfl) ?_
        refine lv_iconst (v := (1 : Int32)) hx hb dX1_dropLink_22 (by decide) ?_
        refine lv_iadd hx hb dX1_dropLink_23 ?_
        obtain ⟨hin_2, h⟩ := ob_if h
        have hin_2 := inb_in hin_2
        refine va_iald (D := D) hx hb hK hP 1 0 rfl rfl hin_2 dX1_dropLink_24 ?_
        obtain ⟨hin_3, h⟩ := ob_if h
        have hin_3 := inb_in hin_3
        refine va_iast (D := D) hx hb hK hP hD hS 1 0 rfl rfl hin_3 dX1_dropLink_25 (fun H locs hP hD hS => ?_)
        have hP : va_P D vwCl [(qn, .inr (1, [.int n_nodes, .int n_links, .int n_room, .int n_alive, .int n_inMap, .ref qn_low, .ref qn_high, .ref qn_length])), (qn_low, .inl (cI, 18, .inl (upd n_low (Int32.toNatClampNeg x2) (n_low (Int32.toNatClampNeg (x2 + (1 : Int32))))))), (qn_high, .inl (cI, 18, .inl n_high)), (qn_length, .inl (cI, 18, .inl n_length))] H := hP
        have hD : va_D A [(qn, .inr (1, [.int n_nodes, .int n_links, .int n_room, .int n_alive, .int n_inMap, .ref qn_low, .ref qn_high, .ref qn_length])), (qn_low, .inl (cI, 18, .inl (upd n_low (Int32.toNatClampNeg x2) (n_low (Int32.toNatClampNeg (x2 + (1 : Int32))))))), (qn_high, .inl (cI, 18, .inl n_high)), (qn_length, .inl (cI, 18, .inl n_length))] := hD
        refine lv_aload_n hx hb dX1_dropLink_26 rfl (lv_at hl 0 rfl) ?_
        refine va_get (D := D) (ci := 1) (v := .ref qn_high) (C := RX1) (T := TX1) (N := 8) hx hb hu k_iX1 hown hK hP 0 rfl rfl 6 (by decide) (hu _ u_95) (fun _ h9 => h9) rfl dX1_dropLink_27 ?_
        refine lv_iload_n hx hb dX1_dropLink_30 rfl (lv_at hl 2 rfl) ?_
        refine lv_aload_n hx hb dX1_dropLink_31 rfl (lv_at hl 0 rfl) ?_
        refine va_get (D := D) (ci := 1) (v := .ref qn_high) (C := RX1) (T := TX1) (N := 8) hx hb hu k_iX1 hown hK hP 0 rfl rfl 6 (by decide) (hu _ u_95) (fun _ h9 => h9) rfl dX1_dropLink_32 ?_
        refine lv_iload_n hx hb dX1_dropLink_35 rfl (lv_at hl 2 rfl) ?_
        refine lv_iconst (v := (1 : Int32)) hx hb dX1_dropLink_36 (by decide) ?_
        refine lv_iadd hx hb dX1_dropLink_37 ?_
        refine va_iald (D := D) hx hb hK hP 2 0 rfl rfl hin_2 dX1_dropLink_38 ?_
        refine va_iast (D := D) hx hb hK hP hD hS 2 0 rfl rfl hin_3 dX1_dropLink_39 (fun H locs hP hD hS => ?_)
        have hP : va_P D vwCl [(qn, .inr (1, [.int n_nodes, .int n_links, .int n_room, .int n_alive, .int n_inMap, .ref qn_low, .ref qn_high, .ref qn_length])), (qn_low, .inl (cI, 18, .inl (upd n_low (Int32.toNatClampNeg x2) (n_low (Int32.toNatClampNeg (x2 + (1 : Int32))))))), (qn_high, .inl (cI, 18, .inl (upd n_high (Int32.toNatClampNeg x2) (n_high (Int32.toNatClampNeg (x2 + (1 : Int32))))))), (qn_length, .inl (cI, 18, .inl n_length))] H := hP
        have hD : va_D A [(qn, .inr (1, [.int n_nodes, .int n_links, .int n_room, .int n_alive, .int n_inMap, .ref qn_low, .ref qn_high, .ref qn_length])), (qn_low, .inl (cI, 18, .inl (upd n_low (Int32.toNatClampNeg x2) (n_low (Int32.toNatClampNeg (x2 + (1 : Int32))))))), (qn_high, .inl (cI, 18, .inl (upd n_high (Int32.toNatClampNeg x2) (n_high (Int32.toNatClampNeg (x2 + (1 : Int32))))))), (qn_length, .inl (cI, 18, .inl n_length))] := hD
        refine lv_aload_n hx hb dX1_dropLink_40 rfl (lv_at hl 0 rfl) ?_
        refine va_get (D := D) (ci := 1) (v := .ref qn_length) (C := RX1) (T := TX1) (N := 8) hx hb hu k_iX1 hown hK hP 0 rfl rfl 7 (by decide) (hu _ u_99) (fun _ h9 => h9) rfl dX1_dropLink_41 ?_
        refine lv_iload_n hx hb dX1_dropLink_44 rfl (lv_at hl 2 rfl) ?_
        refine lv_aload_n hx hb dX1_dropLink_45 rfl (lv_at hl 0 rfl) ?_
        refine va_get (D := D) (ci := 1) (v := .ref qn_length) (C := RX1) (T := TX1) (N := 8) hx hb hu k_iX1 hown hK hP 0 rfl rfl 7 (by decide) (hu _ u_99) (fun _ h9 => h9) rfl dX1_dropLink_46 ?_
        refine lv_iload_n hx hb dX1_dropLink_49 rfl (lv_at hl 2 rfl) ?_
        refine lv_iconst (v := (1 : Int32)) hx hb dX1_dropLink_50 (by decide) ?_
        refine lv_iadd hx hb dX1_dropLink_51 ?_
        refine va_iald (D := D) hx hb hK hP 3 0 rfl rfl hin_2 dX1_dropLink_52 ?_
        refine va_iast (D := D) hx hb hK hP hD hS 3 0 rfl rfl hin_3 dX1_dropLink_53 (fun H locs hP hD hS => ?_)
        have hP : va_P D vwCl [(qn, .inr (1, [.int n_nodes, .int n_links, .int n_room, .int n_alive, .int n_inMap, .ref qn_low, .ref qn_high, .ref qn_length])), (qn_low, .inl (cI, 18, .inl (upd n_low (Int32.toNatClampNeg x2) (n_low (Int32.toNatClampNeg (x2 + (1 : Int32))))))), (qn_high, .inl (cI, 18, .inl (upd n_high (Int32.toNatClampNeg x2) (n_high (Int32.toNatClampNeg (x2 + (1 : Int32))))))), (qn_length, .inl (cI, 18, .inl (upd n_length (Int32.toNatClampNeg x2) (n_length (Int32.toNatClampNeg (x2 + (1 : Int32)))))))] H := hP
        have hD : va_D A [(qn, .inr (1, [.int n_nodes, .int n_links, .int n_room, .int n_alive, .int n_inMap, .ref qn_low, .ref qn_high, .ref qn_length])), (qn_low, .inl (cI, 18, .inl (upd n_low (Int32.toNatClampNeg x2) (n_low (Int32.toNatClampNeg (x2 + (1 : Int32))))))), (qn_high, .inl (cI, 18, .inl (upd n_high (Int32.toNatClampNeg x2) (n_high (Int32.toNatClampNeg (x2 + (1 : Int32))))))), (qn_length, .inl (cI, 18, .inl (upd n_length (Int32.toNatClampNeg x2) (n_length (Int32.toNatClampNeg (x2 + (1 : Int32)))))))] := hD
        refine lv_iinc (v := (x2 + (1 : Int32))) (lv' := [(2, .int (x2 + (1 : Int32))), (0, .ref qn), (1, .int x1)]) hx hb dX1_dropLink_54 hl (k := 2) rfl rfl (by decide) rfl (fun ls hl => ?_)
        refine lv_goto (tgt := 2) hx hb dX1_dropLink_57 (by decide) ?_
        exact ih2 x1 (x2 + (1 : Int32)) n_links n_alive n_inMap (upd n_low (Int32.toNatClampNeg x2) (n_low (Int32.toNatClampNeg (x2 + (1 : Int32))))) (upd n_high (Int32.toNatClampNeg x2) (n_high (Int32.toNatClampNeg (x2 + (1 : Int32))))) (upd n_length (Int32.toNatClampNeg x2) (n_length (Int32.toNatClampNeg (x2 + (1 : Int32))))) _ _ _ hP hD hS (lv_sub hl [1, 2, 0] rfl) h
  refine lv_iload_n hx hb dX1_dropLink_0 rfl (lv_at hl 1 rfl) ?_
  refine lv_istore_n (lv' := [(2, .int p1), (0, .ref qn), (1, .int p1)]) hx hb dX1_dropLink_1 rfl hl (by decide) rfl (fun ls hl => ?_)
  exact w2 1000 p1 p1 n_links n_alive n_inMap n_low n_high n_length _ _ _ hP hD hS (lv_sub hl [1, 2, 0] rfl) h
def f_X1_otherEnd (p1 : Int32) (p2 : Int32) (n_low : (Nat → Int32)) (n_high : (Nat → Int32)) : Option (Int32) :=
  if inb p1 18 = true then
  if (n_low (Int32.toNatClampNeg p1)) = p2 then
    some ((n_high (Int32.toNatClampNeg p1)))
  else
    if (n_high (Int32.toNatClampNeg p1)) = p2 then
      some ((n_low (Int32.toNatClampNeg p1)))
    else
      some ((-1 : Int32))
  else none
set_option maxHeartbeats 4000000 in
set_option maxRecDepth 100000 in
theorem c_X1_otherEnd (l : Launch) (D : va_G) (cI cZ cN : ClassId) (aK aV : Nat → Nat)  (qn : Nat) (qn_low : Nat) (qn_high : Nat) (qn_length : Nat) (n_nodes : Int32) (n_links : Int32) (n_room : Int32) (n_alive : Int32) (n_inMap : Int32) (n_low : (Nat → Int32)) (n_high : (Nat → Int32)) (p1 p2 : Int32) (r : Int32) (h : f_X1_otherEnd p1 p2 n_low n_high = some r) : CtI l D cI cZ cN aK aV yX1_otherEnd (k_W yX1_otherEnd cX1_otherEnd 3 (some .int)) { frames := 0, cells := 0, slots := 0, locals := 0 } [.ref qn, .int p1, .int p2] [(qn, .inr (1, [.int n_nodes, .int n_links, .int n_room, .int n_alive, .int n_inMap, .ref qn_low, .ref qn_high, .ref qn_length])), (qn_low, .inl (cI, 18, .inl n_low)), (qn_high, .inl (cI, 18, .inl n_high))] r [(qn, .inr (1, [.int n_nodes, .int n_links, .int n_room, .int n_alive, .int n_inMap, .ref qn_low, .ref qn_high, .ref qn_length])), (qn_low, .inl (cI, 18, .inl n_low)), (qn_high, .inl (cI, 18, .inl n_high))] := by
  refine k_startI (by decide) (Nat.le_of_ble_eq_true rfl) ?_
  intro p e s m below meth c A ls hx hb hr hml hown hts hlocks hT hZ hA hP hD hS hl
  have hK := hT.1
  have hu : ∀ w ∈ k_U, w.before ([.ref qn, .int p1, .int p2] : List Value).toArray s = true := fun w h => hts w (List.mem_cons_of_mem _ h)
  have hown : s.vm.findClass RX1 = some m.cls := hown
  have hl : lv_has ls 3 [(0, .ref qn), (1, .int p1), (2, .int p2)] := hl
  unfold f_X1_otherEnd at h
  refine lv_aload_n hx hb dX1_otherEnd_0 rfl (lv_at hl 0 rfl) ?_
  refine va_get (D := D) (ci := 1) (v := .ref qn_low) (C := RX1) (T := TX1) (N := 8) hx hb hu k_iX1 hown hK hP 0 rfl rfl 5 (by decide) (hu _ u_91) (fun _ h9 => h9) rfl dX1_otherEnd_1 ?_
  refine lv_iload_n hx hb dX1_otherEnd_4 rfl (lv_at hl 1 rfl) ?_
  obtain ⟨hin_1, h⟩ := ob_if h
  have hin_1 := inb_in hin_1
  refine va_iald (D := D) hx hb hK hP 1 0 rfl rfl hin_1 dX1_otherEnd_5 ?_
  refine lv_iload_n hx hb dX1_otherEnd_6 rfl (lv_at hl 2 rfl) ?_
  refine lv_icmp_ne (tgt := 17) hx hb dX1_otherEnd_7 (by decide) (fun cc_2 => ?_) (fun cc_2 => ?_)
  · have h := (if_neg cc_2).symm.trans h
    refine lv_aload_n hx hb dX1_otherEnd_17 rfl (lv_at hl 0 rfl) ?_
    refine va_get (D := D) (ci := 1) (v := .ref qn_high) (C := RX1) (T := TX1) (N := 8) hx hb hu k_iX1 hown hK hP 0 rfl rfl 6 (by decide) (hu _ u_95) (fun _ h9 => h9) rfl dX1_otherEnd_18 ?_
    refine lv_iload_n hx hb dX1_otherEnd_21 rfl (lv_at hl 1 rfl) ?_
    refine va_iald (D := D) hx hb hK hP 2 0 rfl rfl hin_1 dX1_otherEnd_22 ?_
    refine lv_iload_n hx hb dX1_otherEnd_23 rfl (lv_at hl 2 rfl) ?_
    refine lv_icmp_ne (tgt := 36) hx hb dX1_otherEnd_24 (by decide) (fun cc_3 => ?_) (fun cc_3 => ?_)
    · have h := (if_neg cc_3).symm.trans h
      refine lv_iconst (v := (-1 : Int32)) hx hb dX1_otherEnd_36 (by decide) ?_
      have hq := Option.some.inj h
      clear h
      subst hq
      exact k_retI hx hb hr hlocks hP hD hS dX1_otherEnd_37
    · have h := (if_pos cc_3).symm.trans h
      refine lv_aload_n hx hb dX1_otherEnd_27 rfl (lv_at hl 0 rfl) ?_
      refine va_get (D := D) (ci := 1) (v := .ref qn_low) (C := RX1) (T := TX1) (N := 8) hx hb hu k_iX1 hown hK hP 0 rfl rfl 5 (by decide) (hu _ u_91) (fun _ h9 => h9) rfl dX1_otherEnd_28 ?_
      refine lv_iload_n hx hb dX1_otherEnd_31 rfl (lv_at hl 1 rfl) ?_
      refine va_iald (D := D) hx hb hK hP 1 0 rfl rfl hin_1 dX1_otherEnd_32 ?_
      refine lv_goto (tgt := 37) hx hb dX1_otherEnd_33 (by decide) ?_
      have hq := Option.some.inj h
      clear h
      subst hq
      exact k_retI hx hb hr hlocks hP hD hS dX1_otherEnd_37
  · have h := (if_pos cc_2).symm.trans h
    refine lv_aload_n hx hb dX1_otherEnd_10 rfl (lv_at hl 0 rfl) ?_
    refine va_get (D := D) (ci := 1) (v := .ref qn_high) (C := RX1) (T := TX1) (N := 8) hx hb hu k_iX1 hown hK hP 0 rfl rfl 6 (by decide) (hu _ u_95) (fun _ h9 => h9) rfl dX1_otherEnd_11 ?_
    refine lv_iload_n hx hb dX1_otherEnd_14 rfl (lv_at hl 1 rfl) ?_
    refine va_iald (D := D) hx hb hK hP 2 0 rfl rfl hin_1 dX1_otherEnd_15 ?_
    have hq := Option.some.inj h
    clear h
    subst hq
    exact k_retI hx hb hr hlocks hP hD hS dX1_otherEnd_16
def f_X1_deadLinksAt_b4  : Nat → Int32 → Int32 → Int32 → Int32 → Int32 → (Nat → Int32) → (Nat → Int32) → Option (Int32)
  | 0, _, _, _, _, _, _, _ => none
  | n + 1, x1, x2, x3, n_links, n_alive, n_low, n_high =>
    if n_links ≤ x3 then
      some (x2)
    else
      if (f_X5_bit n_alive x3) = (0 : Int32) then
        (f_X1_otherEnd x3 x1 n_low n_high).bind fun r_3 =>
        if r_3 = (-1 : Int32) then
          (f_X1_deadLinksAt_b4 n) x1 x2 (x3 + (1 : Int32)) n_links n_alive n_low n_high
        else
          (f_X1_deadLinksAt_b4 n) x1 (f_X5_withBit x2 x3 (1 : Int32)) (x3 + (1 : Int32)) n_links n_alive n_low n_high
      else
        (f_X1_deadLinksAt_b4 n) x1 x2 (x3 + (1 : Int32)) n_links n_alive n_low n_high
def f_X1_deadLinksAt (p1 : Int32) (n_links : Int32) (n_alive : Int32) (n_low : (Nat → Int32)) (n_high : (Nat → Int32)) : Option (Int32) :=
  f_X1_deadLinksAt_b4 1000 p1 (0 : Int32) (0 : Int32) n_links n_alive n_low n_high
set_option maxHeartbeats 4000000 in
set_option maxRecDepth 100000 in
theorem c_X1_deadLinksAt (l : Launch) (D : va_G) (cI cZ cN : ClassId) (aK aV : Nat → Nat)  (qn : Nat) (qn_low : Nat) (qn_high : Nat) (qn_length : Nat) (n_nodes : Int32) (n_links : Int32) (n_room : Int32) (n_alive : Int32) (n_inMap : Int32) (n_low : (Nat → Int32)) (n_high : (Nat → Int32)) (p1 : Int32) (r : Int32) (h : f_X1_deadLinksAt p1 n_links n_alive n_low n_high = some r) : CtI l D cI cZ cN aK aV yX1_deadLinksAt (k_W yX1_deadLinksAt cX1_deadLinksAt 4 (some .int)) { frames := 1, cells := 0, slots := 0, locals := 22 } [.ref qn, .int p1] [(qn, .inr (1, [.int n_nodes, .int n_links, .int n_room, .int n_alive, .int n_inMap, .ref qn_low, .ref qn_high, .ref qn_length])), (qn_low, .inl (cI, 18, .inl n_low)), (qn_high, .inl (cI, 18, .inl n_high))] r [(qn, .inr (1, [.int n_nodes, .int n_links, .int n_room, .int n_alive, .int n_inMap, .ref qn_low, .ref qn_high, .ref qn_length])), (qn_low, .inl (cI, 18, .inl n_low)), (qn_high, .inl (cI, 18, .inl n_high))] := by
  refine k_startI (by decide) (Nat.le_of_ble_eq_true rfl) ?_
  intro p e s m below meth c A ls hx hb hr hml hown hts hlocks hT hZ hA hP hD hS hl
  have hK := hT.1
  have hu : ∀ w ∈ k_U, w.before ([.ref qn, .int p1] : List Value).toArray s = true := fun w h => hts w (List.mem_cons_of_mem _ h)
  have hown : s.vm.findClass RX1 = some m.cls := hown
  have hl : lv_has ls 4 [(0, .ref qn), (1, .int p1)] := hl
  unfold f_X1_deadLinksAt at h
  have w4 : ∀ (n4 : Nat) (x1 : Int32) (x2 : Int32) (x3 : Int32) (n_links : Int32) (n_alive : Int32) (n_low : (Nat → Int32)) (n_high : (Nat → Int32)) (H : Heap) (locs : List Loc) (ls : Array Slot), va_P D vwCl [(qn, .inr (1, [.int n_nodes, .int n_links, .int n_room, .int n_alive, .int n_inMap, .ref qn_low, .ref qn_high, .ref qn_length])), (qn_low, .inl (cI, 18, .inl n_low)), (qn_high, .inl (cI, 18, .inl n_high))] H → va_D A [(qn, .inr (1, [.int n_nodes, .int n_links, .int n_room, .int n_alive, .int n_inMap, .ref qn_low, .ref qn_high, .ref qn_length])), (qn_low, .inl (cI, 18, .inl n_low)), (qn_high, .inl (cI, 18, .inl n_high))] → va_S A s.heap H locs → lv_has ls 4 [(0, .ref qn), (1, .int x1), (2, .int x2), (3, .int x3)] → f_X1_deadLinksAt_b4 n4 x1 x2 x3 n_links n_alive n_low n_high = some r → W p l e { frames := 1, cells := 0, slots := 0, locals := 22 } s m ([.ref qn, .int p1] : List Value).toArray below meth c H locs 0 0 (MQ below (k_QI D r [(qn, .inr (1, [.int n_nodes, .int n_links, .int n_room, .int n_alive, .int n_inMap, .ref qn_low, .ref qn_high, .ref qn_length])), (qn_low, .inl (cI, 18, .inl n_low)), (qn_high, .inl (cI, 18, .inl n_high))] A) ([.ref qn, .int p1] : List Value).toArray s 0 0 A) (F0 m 4 ls []) := by
    intro n4
    induction n4 with
    | zero =>
      intro x1 x2 x3 n_links n_alive n_low n_high H locs ls hP hD hS hl h
      rw [f_X1_deadLinksAt_b4] at h
      cases h
    | succ n4 ih4 =>
      intro x1 x2 x3 n_links n_alive n_low n_high H locs ls hP hD hS hl h
      rw [f_X1_deadLinksAt_b4] at h
      refine lv_iload_n hx hb dX1_deadLinksAt_4 rfl (lv_at hl 3 rfl) ?_
      refine lv_aload_n hx hb dX1_deadLinksAt_5 rfl (lv_at hl 0 rfl) ?_
      refine va_get (D := D) (ci := 1) (v := .int n_links) (C := RX1) (T := TX1) (N := 8) hx hb hu k_iX1 hown hK hP 0 rfl rfl 1 (by decide) (hu _ u_77) (fun _ h9 => h9) rfl dX1_deadLinksAt_6 ?_
      refine lv_icmp_ge (tgt := 46) hx hb dX1_deadLinksAt_9 (by decide) (fun cc_1 => ?_) (fun cc_1 => ?_)
      · have h := (if_pos cc_1).symm.trans h
        refine lv_iload_n hx hb dX1_deadLinksAt_46 rfl (lv_at hl 2 rfl) ?_
        have hq := Option.some.inj h
        clear h
        subst hq
        exact k_retI hx hb hr hlocks hP hD hS dX1_deadLinksAt_47
      · have h := (if_neg cc_1).symm.trans h
        refine lv_aload_n hx hb dX1_deadLinksAt_12 rfl (lv_at hl 0 rfl) ?_
        refine va_get (D := D) (ci := 1) (v := .int n_alive) (C := RX1) (T := TX1) (N := 8) hx hb hu k_iX1 hown hK hP 0 rfl rfl 3 (by decide) (hu _ u_82) (fun _ h9 => h9) rfl dX1_deadLinksAt_13 ?_
        refine lv_iload_n hx hb dX1_deadLinksAt_16 rfl (lv_at hl 3 rfl) ?_
        refine k_call0N (As := [.int n_alive, .int x3]) (rest := []) ⟨hx, hb, hml, hown, hts⟩ hT hZ hA hP hD hS (c_X5_bit l D cI cZ cN aK aV n_alive x3 _ rfl) ⟨va_cnB 2 hts (k_good u_393) rfl rfl rfl hT.2.2.2.2.2.1 (hu _ u_45) (by decide +kernel) ⟨Nat.le_of_ble_eq_true rfl, Nat.le_of_ble_eq_true rfl⟩, hu _ u_392, trivial⟩ rfl hl.1 rfl (Nat.le_of_ble_eq_true rfl) dX1_deadLinksAt_17 (fun H locs hP hD hS => ?_)
        refine lv_if_ne (tgt := 40) hx hb dX1_deadLinksAt_20 (by decide) (fun cc_2 => ?_) (fun cc_2 => ?_)
        · have h := (if_neg cc_2).symm.trans h
          refine lv_iinc (v := (x3 + (1 : Int32))) (lv' := [(3, .int (x3 + (1 : Int32))), (0, .ref qn), (1, .int x1), (2, .int x2)]) hx hb dX1_deadLinksAt_40 hl (k := 3) rfl rfl (by decide) rfl (fun ls hl => ?_)
          refine lv_goto (tgt := 4) hx hb dX1_deadLinksAt_43 (by decide) ?_
          exact ih4 x1 x2 (x3 + (1 : Int32)) n_links n_alive n_low n_high _ _ _ hP hD hS (lv_sub hl [1, 2, 3, 0] rfl) h
        · have h := (if_pos cc_2).symm.trans h
          refine lv_aload_n hx hb dX1_deadLinksAt_23 rfl (lv_at hl 0 rfl) ?_
          refine lv_iload_n hx hb dX1_deadLinksAt_24 rfl (lv_at hl 3 rfl) ?_
          refine lv_iload_n hx hb dX1_deadLinksAt_25 rfl (lv_at hl 1 rfl) ?_
          obtain ⟨r_3, hc_4, h⟩ := ob_bind h
          refine k_callVIr (qb := 0) [0, 1, 2] (As := [.int x3, .int x1]) (rest := []) ⟨hx, hb, hml, hown, hts⟩ hT hZ hA hP hD hS (c_X1_otherEnd l D cI cZ cN aK aV qn qn_low qn_high qn_length n_nodes n_links n_room n_alive n_inMap n_low n_high x3 x1 r_3 hc_4) ⟨callB_of 2 hts (k_good u_497) rfl rfl rfl (hu _ u_46) (hu _ u_514) (by decide +kernel) ⟨Nat.le_of_ble_eq_true rfl, Nat.le_of_ble_eq_true rfl⟩, hu _ u_495, hu _ u_496⟩ rfl rfl rfl (by decide) rfl hl.1 rfl (Nat.le_of_ble_eq_true rfl) dX1_deadLinksAt_26 (fun H locs hP hD hS => ?_)
          refine lv_iconst (v := (-1 : Int32)) hx hb dX1_deadLinksAt_29 (by decide) ?_
          refine lv_icmp_eq (tgt := 40) hx hb dX1_deadLinksAt_30 (by decide) (fun cc_5 => ?_) (fun cc_5 => ?_)
          · have h := (if_pos cc_5).symm.trans h
            refine lv_iinc (v := (x3 + (1 : Int32))) (lv' := [(3, .int (x3 + (1 : Int32))), (0, .ref qn), (1, .int x1), (2, .int x2)]) hx hb dX1_deadLinksAt_40 hl (k := 3) rfl rfl (by decide) rfl (fun ls hl => ?_)
            refine lv_goto (tgt := 4) hx hb dX1_deadLinksAt_43 (by decide) ?_
            exact ih4 x1 x2 (x3 + (1 : Int32)) n_links n_alive n_low n_high _ _ _ hP hD hS (lv_sub hl [1, 2, 3, 0] rfl) h
          · have h := (if_neg cc_5).symm.trans h
            refine lv_iload_n hx hb dX1_deadLinksAt_33 rfl (lv_at hl 2 rfl) ?_
            refine lv_iload_n hx hb dX1_deadLinksAt_34 rfl (lv_at hl 3 rfl) ?_
            refine lv_iconst (v := (1 : Int32)) hx hb dX1_deadLinksAt_35 (by decide) ?_
            refine k_call0N (As := [.int x2, .int x3, .int (1 : Int32)]) (rest := []) ⟨hx, hb, hml, hown, hts⟩ hT hZ hA hP hD hS (c_X5_withBit l D cI cZ cN aK aV x2 x3 (1 : Int32) _ rfl) ⟨va_cnB 3 hts (k_good u_368) rfl rfl rfl hT.2.2.2.2.1 (hu _ u_45) (by decide +kernel) ⟨Nat.le_of_ble_eq_true rfl, Nat.le_of_ble_eq_true rfl⟩, hu _ u_367, trivial⟩ rfl hl.1 rfl (Nat.le_of_ble_eq_true rfl) dX1_deadLinksAt_36 (fun H locs hP hD hS => ?_)
            refine lv_istore_n (lv' := [(2, .int (f_X5_withBit x2 x3 (1 : Int32))), (0, .ref qn), (1, .int x1), (3, .int x3)]) hx hb dX1_deadLinksAt_39 rfl hl (by decide) rfl (fun ls hl => ?_)
            refine lv_iinc (v := (x3 + (1 : Int32))) (lv' := [(3, .int (x3 + (1 : Int32))), (2, .int (f_X5_withBit x2 x3 (1 : Int32))), (0, .ref qn), (1, .int x1)]) hx hb dX1_deadLinksAt_40 hl (k := 3) rfl rfl (by decide) rfl (fun ls hl => ?_)
            refine lv_goto (tgt := 4) hx hb dX1_deadLinksAt_43 (by decide) ?_
            exact ih4 x1 (f_X5_withBit x2 x3 (1 : Int32)) (x3 + (1 : Int32)) n_links n_alive n_low n_high _ _ _ hP hD hS (lv_sub hl [2, 3, 1, 0] rfl) h
  refine lv_iconst (v := (0 : Int32)) hx hb dX1_deadLinksAt_0 (by decide) ?_
  refine lv_istore_n (lv' := [(2, .int (0 : Int32)), (0, .ref qn), (1, .int p1)]) hx hb dX1_deadLinksAt_1 rfl hl (by decide) rfl (fun ls hl => ?_)
  refine lv_iconst (v := (0 : Int32)) hx hb dX1_deadLinksAt_2 (by decide) ?_
  refine lv_istore_n (lv' := [(3, .int (0 : Int32)), (2, .int (0 : Int32)), (0, .ref qn), (1, .int p1)]) hx hb dX1_deadLinksAt_3 rfl hl (by decide) rfl (fun ls hl => ?_)
  exact w4 1000 p1 (0 : Int32) (0 : Int32) n_links n_alive n_low n_high _ _ _ hP hD hS (lv_sub hl [2, 3, 1, 0] rfl) h
def f_X1_countWrongInMap (n_alive : Int32) (n_inMap : Int32) : Int32 :=
  (f_J6_bitCount_0f7a4 (n_alive ^^^ n_inMap))
set_option maxHeartbeats 4000000 in
set_option maxRecDepth 100000 in
theorem c_X1_countWrongInMap (l : Launch) (D : va_G) (cI cZ cN : ClassId) (aK aV : Nat → Nat)  (qn : Nat) (qn_low : Nat) (qn_high : Nat) (qn_length : Nat) (n_nodes : Int32) (n_links : Int32) (n_room : Int32) (n_alive : Int32) (n_inMap : Int32) (r : Int32) (h : f_X1_countWrongInMap n_alive n_inMap = r) : CtI l D cI cZ cN aK aV yX1_countWrongInMap (k_W yX1_countWrongInMap cX1_countWrongInMap 1 (some .int)) { frames := 1, cells := 0, slots := 0, locals := 20 } [.ref qn] [(qn, .inr (1, [.int n_nodes, .int n_links, .int n_room, .int n_alive, .int n_inMap, .ref qn_low, .ref qn_high, .ref qn_length]))] r [(qn, .inr (1, [.int n_nodes, .int n_links, .int n_room, .int n_alive, .int n_inMap, .ref qn_low, .ref qn_high, .ref qn_length]))] := by
  refine k_startI (by decide) (Nat.le_of_ble_eq_true rfl) ?_
  intro p e s m below meth c A ls hx hb hr hml hown hts hlocks hT hZ hA hP hD hS hl
  have hK := hT.1
  have hu : ∀ w ∈ k_U, w.before ([.ref qn] : List Value).toArray s = true := fun w h => hts w (List.mem_cons_of_mem _ h)
  have hown : s.vm.findClass RX1 = some m.cls := hown
  have hl : lv_has ls 1 [(0, .ref qn)] := hl
  unfold f_X1_countWrongInMap at h
  refine lv_aload_n hx hb dX1_countWrongInMap_0 rfl (lv_at hl 0 rfl) ?_
  refine va_get (D := D) (ci := 1) (v := .int n_alive) (C := RX1) (T := TX1) (N := 8) hx hb hu k_iX1 hown hK hP 0 rfl rfl 3 (by decide) (hu _ u_82) (fun _ h9 => h9) rfl dX1_countWrongInMap_1 ?_
  refine lv_aload_n hx hb dX1_countWrongInMap_4 rfl (lv_at hl 0 rfl) ?_
  refine va_get (D := D) (ci := 1) (v := .int n_inMap) (C := RX1) (T := TX1) (N := 8) hx hb hu k_iX1 hown hK hP 0 rfl rfl 4 (by decide) (hu _ u_87) (fun _ h9 => h9) rfl dX1_countWrongInMap_5 ?_
  refine lv_ixor hx hb dX1_countWrongInMap_8 ?_
  refine k_call0 (As := [.int (n_alive ^^^ n_inMap)]) (rest := []) ⟨hx, hb, hml, hown, hts⟩ hT hZ hA hP hD hS (c_J6_bitCount_0f7a4 l D cI cZ cN aK aV (n_alive ^^^ n_inMap) _ rfl) ⟨callB_of 1 hts (k_good u_409) rfl rfl rfl (hu _ u_53) (hu _ u_407) (by decide +kernel) ⟨Nat.le_of_ble_eq_true rfl, Nat.le_of_ble_eq_true rfl⟩, hu _ u_408⟩ rfl hl.1 rfl (Nat.le_of_ble_eq_true rfl) dX1_countWrongInMap_9 (fun H locs hP hD hS => ?_)
  have hq := h
  clear h
  subst hq
  exact k_retI hx hb hr hlocks hP hD hS dX1_countWrongInMap_12
def f_X1_reachedFrom_b30 (k10 : Int32 → Int32 → Int32 → Int32 → Int32 → Int32 → (Nat → Int32) → (Nat → Int32) → Option (Int32)) : Nat → Int32 → Int32 → Int32 → Int32 → Int32 → Int32 → Int32 → (Nat → Int32) → (Nat → Int32) → Option (Int32)
  | 0, _, _, _, _, _, _, _, _, _ => none
  | n + 1, x2, x3, x4, x5, x6, n_nodes, n_links, n_low, n_high =>
    if n_links ≤ x6 then
      k10 x2 x3 x4 (x5 + (1 : Int32)) n_nodes n_links n_low n_high
    else
      if (f_X5_bit x2 x6) = (1 : Int32) then
        if inb x6 18 = true then
        if (f_X5_bit x3 (n_low (Int32.toNatClampNeg x6))) = (f_X5_bit x3 (n_high (Int32.toNatClampNeg x6))) then
          (f_X1_reachedFrom_b30 k10 n) x2 x3 x4 x5 (x6 + (1 : Int32)) n_nodes n_links n_low n_high
        else
          (f_X1_reachedFrom_b30 k10 n) x2 (x3 ||| (((1 : Int32) <<< ((n_low (Int32.toNatClampNeg x6)) &&& (31 : Int32))) ||| ((1 : Int32) <<< ((n_high (Int32.toNatClampNeg x6)) &&& (31 : Int32))))) (1 : Int32) x5 (x6 + (1 : Int32)) n_nodes n_links n_low n_high
        else none
      else
        (f_X1_reachedFrom_b30 k10 n) x2 x3 x4 x5 (x6 + (1 : Int32)) n_nodes n_links n_low n_high
def f_X1_reachedFrom_b10  : Nat → Int32 → Int32 → Int32 → Int32 → Int32 → Int32 → (Nat → Int32) → (Nat → Int32) → Option (Int32)
  | 0, _, _, _, _, _, _, _, _ => none
  | n + 1, x2, x3, x4, x5, n_nodes, n_links, n_low, n_high =>
    if n_nodes ≤ x5 then
      some (x3)
    else
      if x4 = (0 : Int32) then
        some (x3)
      else
        f_X1_reachedFrom_b30 (f_X1_reachedFrom_b10 n) 1000 x2 x3 (0 : Int32) x5 (0 : Int32) n_nodes n_links n_low n_high
def f_X1_reachedFrom (p1 : Int32) (p2 : Int32) (n_nodes : Int32) (n_links : Int32) (n_low : (Nat → Int32)) (n_high : (Nat → Int32)) : Option (Int32) :=
  f_X1_reachedFrom_b10 1000 p2 ((1 : Int32) <<< (p1 &&& (31 : Int32))) (1 : Int32) (0 : Int32) n_nodes n_links n_low n_high
set_option maxHeartbeats 4000000 in
set_option maxRecDepth 100000 in
theorem c_X1_reachedFrom (l : Launch) (D : va_G) (cI cZ cN : ClassId) (aK aV : Nat → Nat)  (qn : Nat) (qn_low : Nat) (qn_high : Nat) (qn_length : Nat) (n_nodes : Int32) (n_links : Int32) (n_room : Int32) (n_alive : Int32) (n_inMap : Int32) (n_low : (Nat → Int32)) (n_high : (Nat → Int32)) (p1 p2 : Int32) (r : Int32) (h : f_X1_reachedFrom p1 p2 n_nodes n_links n_low n_high = some r) : CtI l D cI cZ cN aK aV yX1_reachedFrom (k_W yX1_reachedFrom cX1_reachedFrom 7 (some .int)) { frames := 1, cells := 0, slots := 0, locals := 21 } [.ref qn, .int p1, .int p2] [(qn, .inr (1, [.int n_nodes, .int n_links, .int n_room, .int n_alive, .int n_inMap, .ref qn_low, .ref qn_high, .ref qn_length])), (qn_low, .inl (cI, 18, .inl n_low)), (qn_high, .inl (cI, 18, .inl n_high))] r [(qn, .inr (1, [.int n_nodes, .int n_links, .int n_room, .int n_alive, .int n_inMap, .ref qn_low, .ref qn_high, .ref qn_length])), (qn_low, .inl (cI, 18, .inl n_low)), (qn_high, .inl (cI, 18, .inl n_high))] := by
  refine k_startI (by decide) (Nat.le_of_ble_eq_true rfl) ?_
  intro p e s m below meth c A ls hx hb hr hml hown hts hlocks hT hZ hA hP hD hS hl
  have hK := hT.1
  have hu : ∀ w ∈ k_U, w.before ([.ref qn, .int p1, .int p2] : List Value).toArray s = true := fun w h => hts w (List.mem_cons_of_mem _ h)
  have hown : s.vm.findClass RX1 = some m.cls := hown
  have hl : lv_has ls 7 [(0, .ref qn), (1, .int p1), (2, .int p2)] := hl
  unfold f_X1_reachedFrom at h
  have w10 : ∀ (n10 : Nat) (x2 : Int32) (x3 : Int32) (x4 : Int32) (x5 : Int32) (n_nodes : Int32) (n_links : Int32) (n_low : (Nat → Int32)) (n_high : (Nat → Int32)) (H : Heap) (locs : List Loc) (ls : Array Slot), va_P D vwCl [(qn, .inr (1, [.int n_nodes, .int n_links, .int n_room, .int n_alive, .int n_inMap, .ref qn_low, .ref qn_high, .ref qn_length])), (qn_low, .inl (cI, 18, .inl n_low)), (qn_high, .inl (cI, 18, .inl n_high))] H → va_D A [(qn, .inr (1, [.int n_nodes, .int n_links, .int n_room, .int n_alive, .int n_inMap, .ref qn_low, .ref qn_high, .ref qn_length])), (qn_low, .inl (cI, 18, .inl n_low)), (qn_high, .inl (cI, 18, .inl n_high))] → va_S A s.heap H locs → lv_has ls 7 [(0, .ref qn), (2, .int x2), (3, .int x3), (4, .int x4), (5, .int x5)] → f_X1_reachedFrom_b10 n10 x2 x3 x4 x5 n_nodes n_links n_low n_high = some r → W p l e { frames := 1, cells := 0, slots := 0, locals := 21 } s m ([.ref qn, .int p1, .int p2] : List Value).toArray below meth c H locs 0 0 (MQ below (k_QI D r [(qn, .inr (1, [.int n_nodes, .int n_links, .int n_room, .int n_alive, .int n_inMap, .ref qn_low, .ref qn_high, .ref qn_length])), (qn_low, .inl (cI, 18, .inl n_low)), (qn_high, .inl (cI, 18, .inl n_high))] A) ([.ref qn, .int p1, .int p2] : List Value).toArray s 0 0 A) (F0 m 10 ls []) := by
    intro n10
    induction n10 with
    | zero =>
      intro x2 x3 x4 x5 n_nodes n_links n_low n_high H locs ls hP hD hS hl h
      rw [f_X1_reachedFrom_b10] at h
      cases h
    | succ n10 ih10 =>
      intro x2 x3 x4 x5 n_nodes n_links n_low n_high H locs ls hP hD hS hl h
      rw [f_X1_reachedFrom_b10] at h
      have w30 : ∀ (n30 : Nat) (x2 : Int32) (x3 : Int32) (x4 : Int32) (x5 : Int32) (x6 : Int32) (n_nodes : Int32) (n_links : Int32) (n_low : (Nat → Int32)) (n_high : (Nat → Int32)) (H : Heap) (locs : List Loc) (ls : Array Slot), va_P D vwCl [(qn, .inr (1, [.int n_nodes, .int n_links, .int n_room, .int n_alive, .int n_inMap, .ref qn_low, .ref qn_high, .ref qn_length])), (qn_low, .inl (cI, 18, .inl n_low)), (qn_high, .inl (cI, 18, .inl n_high))] H → va_D A [(qn, .inr (1, [.int n_nodes, .int n_links, .int n_room, .int n_alive, .int n_inMap, .ref qn_low, .ref qn_high, .ref qn_length])), (qn_low, .inl (cI, 18, .inl n_low)), (qn_high, .inl (cI, 18, .inl n_high))] → va_S A s.heap H locs → lv_has ls 7 [(0, .ref qn), (2, .int x2), (3, .int x3), (4, .int x4), (5, .int x5), (6, .int x6)] → f_X1_reachedFrom_b30 (f_X1_reachedFrom_b10 n10) n30 x2 x3 x4 x5 x6 n_nodes n_links n_low n_high = some r → W p l e { frames := 1, cells := 0, slots := 0, locals := 21 } s m ([.ref qn, .int p1, .int p2] : List Value).toArray below meth c H locs 0 0 (MQ below (k_QI D r [(qn, .inr (1, [.int n_nodes, .int n_links, .int n_room, .int n_alive, .int n_inMap, .ref qn_low, .ref qn_high, .ref qn_length])), (qn_low, .inl (cI, 18, .inl n_low)), (qn_high, .inl (cI, 18, .inl n_high))] A) ([.ref qn, .int p1, .int p2] : List Value).toArray s 0 0 A) (F0 m 30 ls []) := by
        intro n30
        induction n30 with
        | zero =>
          intro x2 x3 x4 x5 x6 n_nodes n_links n_low n_high H locs ls hP hD hS hl h
          rw [f_X1_reachedFrom_b30] at h
          cases h
        | succ n30 ih30 =>
          intro x2 x3 x4 x5 x6 n_nodes n_links n_low n_high H locs ls hP hD hS hl h
          rw [f_X1_reachedFrom_b30] at h
          refine lv_iload hx hb dX1_reachedFrom_30 (lv_at hl 5 rfl) ?_
          refine lv_aload_n hx hb dX1_reachedFrom_32 rfl (lv_at hl 0 rfl) ?_
          refine va_get (D := D) (ci := 1) (v := .int n_links) (C := RX1) (T := TX1) (N := 8) hx hb hu k_iX1 hown hK hP 0 rfl rfl 1 (by decide) (hu _ u_77) (fun _ h9 => h9) rfl dX1_reachedFrom_33 ?_
          refine lv_icmp_ge (tgt := 105) hx hb dX1_reachedFrom_36 (by decide) (fun cc_3 => ?_) (fun cc_3 => ?_)
          · have h := (if_pos cc_3).symm.trans h
            refine lv_iinc (v := (x5 + (1 : Int32))) (lv' := [(5, .int (x5 + (1 : Int32))), (0, .ref qn), (2, .int x2), (3, .int x3), (4, .int x4), (6, .int x6)]) hx hb dX1_reachedFrom_105 hl (k := 4) rfl rfl (by decide) rfl (fun ls hl => ?_)
            refine lv_goto (tgt := 10) hx hb dX1_reachedFrom_108 (by decide) ?_
            exact ih10 x2 x3 x4 (x5 + (1 : Int32)) n_nodes n_links n_low n_high _ _ _ hP hD hS (lv_sub hl [1, 2, 3, 4, 0] rfl) h
          · have h := (if_neg cc_3).symm.trans h
            refine lv_iload_n hx hb dX1_reachedFrom_39 rfl (lv_at hl 1 rfl) ?_
            refine lv_iload hx hb dX1_reachedFrom_40 (lv_at hl 5 rfl) ?_
            refine k_call0N (As := [.int x2, .int x6]) (rest := []) ⟨hx, hb, hml, hown, hts⟩ hT hZ hA hP hD hS (c_X5_bit l D cI cZ cN aK aV x2 x6 _ rfl) ⟨va_cnB 2 hts (k_good u_393) rfl rfl rfl hT.2.2.2.2.2.1 (hu _ u_45) (by decide +kernel) ⟨Nat.le_of_ble_eq_true rfl, Nat.le_of_ble_eq_true rfl⟩, hu _ u_392, trivial⟩ rfl hl.1 rfl (Nat.le_of_ble_eq_true rfl) dX1_reachedFrom_42 (fun H locs hP hD hS => ?_)
            refine lv_iconst (v := (1 : Int32)) hx hb dX1_reachedFrom_45 (by decide) ?_
            refine lv_icmp_ne (tgt := 99) hx hb dX1_reachedFrom_46 (by decide) (fun cc_4 => ?_) (fun cc_4 => ?_)
            · have h := (if_neg cc_4).symm.trans h
              refine lv_iinc (v := (x6 + (1 : Int32))) (lv' := [(6, .int (x6 + (1 : Int32))), (0, .ref qn), (2, .int x2), (3, .int x3), (4, .int x4), (5, .int x5)]) hx hb dX1_reachedFrom_99 hl (k := 5) rfl rfl (by decide) rfl (fun ls hl => ?_)
              refine lv_goto (tgt := 30) hx hb dX1_reachedFrom_102 (by decide) ?_
              exact ih30 x2 x3 x4 x5 (x6 + (1 : Int32)) n_nodes n_links n_low n_high _ _ _ hP hD hS (lv_sub hl [1, 2, 3, 4, 5, 0] rfl) h
            · have h := (if_pos cc_4).symm.trans h
              refine lv_iload_n hx hb dX1_reachedFrom_49 rfl (lv_at hl 2 rfl) ?_
              refine lv_aload_n hx hb dX1_reachedFrom_50 rfl (lv_at hl 0 rfl) ?_
              refine va_get (D := D) (ci := 1) (v := .ref qn_low) (C := RX1) (T := TX1) (N := 8) hx hb hu k_iX1 hown hK hP 0 rfl rfl 5 (by decide) (hu _ u_91) (fun _ h9 => h9) rfl dX1_reachedFrom_51 ?_
              refine lv_iload hx hb dX1_reachedFrom_54 (lv_at hl 5 rfl) ?_
              obtain ⟨hin_5, h⟩ := ob_if h
              have hin_5 := inb_in hin_5
              refine va_iald (D := D) hx hb hK hP 1 0 rfl rfl hin_5 dX1_reachedFrom_56 ?_
              refine k_call0N (As := [.int x3, .int (n_low (Int32.toNatClampNeg x6))]) (rest := []) ⟨hx, hb, hml, hown, hts⟩ hT hZ hA hP hD hS (c_X5_bit l D cI cZ cN aK aV x3 (n_low (Int32.toNatClampNeg x6)) _ rfl) ⟨va_cnB 2 hts (k_good u_393) rfl rfl rfl hT.2.2.2.2.2.1 (hu _ u_45) (by decide +kernel) ⟨Nat.le_of_ble_eq_true rfl, Nat.le_of_ble_eq_true rfl⟩, hu _ u_392, trivial⟩ rfl hl.1 rfl (Nat.le_of_ble_eq_true rfl) dX1_reachedFrom_57 (fun H locs hP hD hS => ?_)
              refine lv_iload_n hx hb dX1_reachedFrom_60 rfl (lv_at hl 2 rfl) ?_
              refine lv_aload_n hx hb dX1_reachedFrom_61 rfl (lv_at hl 0 rfl) ?_
              refine va_get (D := D) (ci := 1) (v := .ref qn_high) (C := RX1) (T := TX1) (N := 8) hx hb hu k_iX1 hown hK hP 0 rfl rfl 6 (by decide) (hu _ u_95) (fun _ h9 => h9) rfl dX1_reachedFrom_62 ?_
              refine lv_iload hx hb dX1_reachedFrom_65 (lv_at hl 5 rfl) ?_
              refine va_iald (D := D) hx hb hK hP 2 0 rfl rfl hin_5 dX1_reachedFrom_67 ?_
              refine k_call0N (As := [.int x3, .int (n_high (Int32.toNatClampNeg x6))]) (rest := [.int (f_X5_bit x3 (n_low (Int32.toNatClampNeg x6)))]) ⟨hx, hb, hml, hown, hts⟩ hT hZ hA hP hD hS (c_X5_bit l D cI cZ cN aK aV x3 (n_high (Int32.toNatClampNeg x6)) _ rfl) ⟨va_cnB 2 hts (k_good u_393) rfl rfl rfl hT.2.2.2.2.2.1 (hu _ u_45) (by decide +kernel) ⟨Nat.le_of_ble_eq_true rfl, Nat.le_of_ble_eq_true rfl⟩, hu _ u_392, trivial⟩ rfl hl.1 rfl (Nat.le_of_ble_eq_true rfl) dX1_reachedFrom_68 (fun H locs hP hD hS => ?_)
              refine lv_icmp_eq (tgt := 99) hx hb dX1_reachedFrom_71 (by decide) (fun cc_6 => ?_) (fun cc_6 => ?_)
              · have h := (if_pos cc_6).symm.trans h
                refine lv_iinc (v := (x6 + (1 : Int32))) (lv' := [(6, .int (x6 + (1 : Int32))), (0, .ref qn), (2, .int x2), (3, .int x3), (4, .int x4), (5, .int x5)]) hx hb dX1_reachedFrom_99 hl (k := 5) rfl rfl (by decide) rfl (fun ls hl => ?_)
                refine lv_goto (tgt := 30) hx hb dX1_reachedFrom_102 (by decide) ?_
                exact ih30 x2 x3 x4 x5 (x6 + (1 : Int32)) n_nodes n_links n_low n_high _ _ _ hP hD hS (lv_sub hl [1, 2, 3, 4, 5, 0] rfl) h
              · have h := (if_neg cc_6).symm.trans h
                refine lv_iload_n hx hb dX1_reachedFrom_74 rfl (lv_at hl 2 rfl) ?_
                refine lv_iconst (v := (1 : Int32)) hx hb dX1_reachedFrom_75 (by decide) ?_
                refine lv_aload_n hx hb dX1_reachedFrom_76 rfl (lv_at hl 0 rfl) ?_
                refine va_get (D := D) (ci := 1) (v := .ref qn_low) (C := RX1) (T := TX1) (N := 8) hx hb hu k_iX1 hown hK hP 0 rfl rfl 5 (by decide) (hu _ u_91) (fun _ h9 => h9) rfl dX1_reachedFrom_77 ?_
                refine lv_iload hx hb dX1_reachedFrom_80 (lv_at hl 5 rfl) ?_
                refine va_iald (D := D) hx hb hK hP 1 0 rfl rfl hin_5 dX1_reachedFrom_82 ?_
                refine lv_ishl hx hb dX1_reachedFrom_83 ?_
                refine lv_iconst (v := (1 : Int32)) hx hb dX1_reachedFrom_84 (by decide) ?_
                refine lv_aload_n hx hb dX1_reachedFrom_85 rfl (lv_at hl 0 rfl) ?_
                refine va_get (D := D) (ci := 1) (v := .ref qn_high) (C := RX1) (T := TX1) (N := 8) hx hb hu k_iX1 hown hK hP 0 rfl rfl 6 (by decide) (hu _ u_95) (fun _ h9 => h9) rfl dX1_reachedFrom_86 ?_
                refine lv_iload hx hb dX1_reachedFrom_89 (lv_at hl 5 rfl) ?_
                refine va_iald (D := D) hx hb hK hP 2 0 rfl rfl hin_5 dX1_reachedFrom_91 ?_
                refine lv_ishl hx hb dX1_reachedFrom_92 ?_
                refine lv_ior hx hb dX1_reachedFrom_93 ?_
                refine lv_ior hx hb dX1_reachedFrom_94 ?_
                refine lv_istore_n (lv' := [(3, .int (x3 ||| (((1 : Int32) <<< ((n_low (Int32.toNatClampNeg x6)) &&& (31 : Int32))) ||| ((1 : Int32) <<< ((n_high (Int32.toNatClampNeg x6)) &&& (31 : Int32)))))), (0, .ref qn), (2, .int x2), (4, .int x4), (5, .int x5), (6, .int x6)]) hx hb dX1_reachedFrom_95 rfl hl (by decide) rfl (fun ls hl => ?_)
                refine lv_iconst (v := (1 : Int32)) hx hb dX1_reachedFrom_96 (by decide) ?_
                refine lv_istore (lv' := [(4, .int (1 : Int32)), (3, .int (x3 ||| (((1 : Int32) <<< ((n_low (Int32.toNatClampNeg x6)) &&& (31 : Int32))) ||| ((1 : Int32) <<< ((n_high (Int32.toNatClampNeg x6)) &&& (31 : Int32)))))), (0, .ref qn), (2, .int x2), (5, .int x5), (6, .int x6)]) hx hb dX1_reachedFrom_97 hl (by decide) rfl (fun ls hl => ?_)
                refine lv_iinc (v := (x6 + (1 : Int32))) (lv' := [(6, .int (x6 + (1 : Int32))), (4, .int (1 : Int32)), (3, .int (x3 ||| (((1 : Int32) <<< ((n_low (Int32.toNatClampNeg x6)) &&& (31 : Int32))) ||| ((1 : Int32) <<< ((n_high (Int32.toNatClampNeg x6)) &&& (31 : Int32)))))), (0, .ref qn), (2, .int x2), (5, .int x5)]) hx hb dX1_reachedFrom_99 hl (k := 5) rfl rfl (by decide) rfl (fun ls hl => ?_)
                refine lv_goto (tgt := 30) hx hb dX1_reachedFrom_102 (by decide) ?_
                exact ih30 x2 (x3 ||| (((1 : Int32) <<< ((n_low (Int32.toNatClampNeg x6)) &&& (31 : Int32))) ||| ((1 : Int32) <<< ((n_high (Int32.toNatClampNeg x6)) &&& (31 : Int32))))) (1 : Int32) x5 (x6 + (1 : Int32)) n_nodes n_links n_low n_high _ _ _ hP hD hS (lv_sub hl [3, 4, 2, 1, 5, 0] rfl) h
      refine lv_iload hx hb dX1_reachedFrom_10 (lv_at hl 4 rfl) ?_
      refine lv_aload_n hx hb dX1_reachedFrom_12 rfl (lv_at hl 0 rfl) ?_
      refine va_get (D := D) (ci := 1) (v := .int n_nodes) (C := RX1) (T := TX1) (N := 8) hx hb hu k_iX1 hown hK hP 0 rfl rfl 0 (by decide) (hu _ u_73) (fun _ h9 => h9) rfl dX1_reachedFrom_13 ?_
      refine lv_icmp_ge (tgt := 111) hx hb dX1_reachedFrom_16 (by decide) (fun cc_1 => ?_) (fun cc_1 => ?_)
      · have h := (if_pos cc_1).symm.trans h
        refine lv_iload_n hx hb dX1_reachedFrom_111 rfl (lv_at hl 2 rfl) ?_
        have hq := Option.some.inj h
        clear h
        subst hq
        exact k_retI hx hb hr hlocks hP hD hS dX1_reachedFrom_112
      · have h := (if_neg cc_1).symm.trans h
        refine lv_iload hx hb dX1_reachedFrom_19 (lv_at hl 3 rfl) ?_
        refine lv_if_eq (tgt := 111) hx hb dX1_reachedFrom_21 (by decide) (fun cc_2 => ?_) (fun cc_2 => ?_)
        · have h := (if_pos cc_2).symm.trans h
          refine lv_iload_n hx hb dX1_reachedFrom_111 rfl (lv_at hl 2 rfl) ?_
          have hq := Option.some.inj h
          clear h
          subst hq
          exact k_retI hx hb hr hlocks hP hD hS dX1_reachedFrom_112
        · have h := (if_neg cc_2).symm.trans h
          refine lv_iconst (v := (0 : Int32)) hx hb dX1_reachedFrom_24 (by decide) ?_
          refine lv_istore (lv' := [(4, .int (0 : Int32)), (0, .ref qn), (2, .int x2), (3, .int x3), (5, .int x5)]) hx hb dX1_reachedFrom_25 hl (by decide) rfl (fun ls hl => ?_)
          refine lv_iconst (v := (0 : Int32)) hx hb dX1_reachedFrom_27 (by decide) ?_
          refine lv_istore (lv' := [(6, .int (0 : Int32)), (4, .int (0 : Int32)), (0, .ref qn), (2, .int x2), (3, .int x3), (5, .int x5)]) hx hb dX1_reachedFrom_28 hl (by decide) rfl (fun ls hl => ?_)
          exact w30 1000 x2 x3 (0 : Int32) x5 (0 : Int32) n_nodes n_links n_low n_high _ _ _ hP hD hS (lv_sub hl [2, 3, 4, 1, 5, 0] rfl) h
  refine lv_iconst (v := (1 : Int32)) hx hb dX1_reachedFrom_0 (by decide) ?_
  refine lv_iload_n hx hb dX1_reachedFrom_1 rfl (lv_at hl 1 rfl) ?_
  refine lv_ishl hx hb dX1_reachedFrom_2 ?_
  refine lv_istore_n (lv' := [(3, .int ((1 : Int32) <<< (p1 &&& (31 : Int32)))), (0, .ref qn), (1, .int p1), (2, .int p2)]) hx hb dX1_reachedFrom_3 rfl hl (by decide) rfl (fun ls hl => ?_)
  refine lv_iconst (v := (1 : Int32)) hx hb dX1_reachedFrom_4 (by decide) ?_
  refine lv_istore (lv' := [(4, .int (1 : Int32)), (3, .int ((1 : Int32) <<< (p1 &&& (31 : Int32)))), (0, .ref qn), (1, .int p1), (2, .int p2)]) hx hb dX1_reachedFrom_5 hl (by decide) rfl (fun ls hl => ?_)
  refine lv_iconst (v := (0 : Int32)) hx hb dX1_reachedFrom_7 (by decide) ?_
  refine lv_istore (lv' := [(5, .int (0 : Int32)), (4, .int (1 : Int32)), (3, .int ((1 : Int32) <<< (p1 &&& (31 : Int32)))), (0, .ref qn), (1, .int p1), (2, .int p2)]) hx hb dX1_reachedFrom_8 hl (by decide) rfl (fun ls hl => ?_)
  exact w10 1000 p2 ((1 : Int32) <<< (p1 &&& (31 : Int32))) (1 : Int32) (0 : Int32) n_nodes n_links n_low n_high _ _ _ hP hD hS (lv_sub hl [3, 5, 2, 1, 0] rfl) h
def f_X1_countParts_b6  : Nat → Int32 → Int32 → Int32 → Int32 → Int32 → Int32 → (Nat → Int32) → (Nat → Int32) → Option (Int32)
  | 0, _, _, _, _, _, _, _, _ => none
  | n + 1, x1, x2, x3, n_nodes, n_links, n_alive, n_low, n_high =>
    if n_nodes ≤ x3 then
      some (x1)
    else
      if (f_X5_bit x2 x3) = (0 : Int32) then
        (f_X1_reachedFrom x3 n_alive n_nodes n_links n_low n_high).bind fun r_3 =>
        (f_X1_countParts_b6 n) (x1 + (1 : Int32)) (x2 ||| r_3) (x3 + (1 : Int32)) n_nodes n_links n_alive n_low n_high
      else
        (f_X1_countParts_b6 n) x1 x2 (x3 + (1 : Int32)) n_nodes n_links n_alive n_low n_high
def f_X1_countParts (n_nodes : Int32) (n_links : Int32) (n_alive : Int32) (n_low : (Nat → Int32)) (n_high : (Nat → Int32)) : Option (Int32) :=
  f_X1_countParts_b6 1000 (0 : Int32) (0 : Int32) (0 : Int32) n_nodes n_links n_alive n_low n_high
set_option maxHeartbeats 4000000 in
set_option maxRecDepth 100000 in
theorem c_X1_countParts (l : Launch) (D : va_G) (cI cZ cN : ClassId) (aK aV : Nat → Nat)  (qn : Nat) (qn_low : Nat) (qn_high : Nat) (qn_length : Nat) (n_nodes : Int32) (n_links : Int32) (n_room : Int32) (n_alive : Int32) (n_inMap : Int32) (n_low : (Nat → Int32)) (n_high : (Nat → Int32)) (r : Int32) (h : f_X1_countParts n_nodes n_links n_alive n_low n_high = some r) : CtI l D cI cZ cN aK aV yX1_countParts (k_W yX1_countParts cX1_countParts 4 (some .int)) { frames := 2, cells := 0, slots := 0, locals := 47 } [.ref qn] [(qn, .inr (1, [.int n_nodes, .int n_links, .int n_room, .int n_alive, .int n_inMap, .ref qn_low, .ref qn_high, .ref qn_length])), (qn_low, .inl (cI, 18, .inl n_low)), (qn_high, .inl (cI, 18, .inl n_high))] r [(qn, .inr (1, [.int n_nodes, .int n_links, .int n_room, .int n_alive, .int n_inMap, .ref qn_low, .ref qn_high, .ref qn_length])), (qn_low, .inl (cI, 18, .inl n_low)), (qn_high, .inl (cI, 18, .inl n_high))] := by
  refine k_startI (by decide) (Nat.le_of_ble_eq_true rfl) ?_
  intro p e s m below meth c A ls hx hb hr hml hown hts hlocks hT hZ hA hP hD hS hl
  have hK := hT.1
  have hu : ∀ w ∈ k_U, w.before ([.ref qn] : List Value).toArray s = true := fun w h => hts w (List.mem_cons_of_mem _ h)
  have hown : s.vm.findClass RX1 = some m.cls := hown
  have hl : lv_has ls 4 [(0, .ref qn)] := hl
  unfold f_X1_countParts at h
  have w6 : ∀ (n6 : Nat) (x1 : Int32) (x2 : Int32) (x3 : Int32) (n_nodes : Int32) (n_links : Int32) (n_alive : Int32) (n_low : (Nat → Int32)) (n_high : (Nat → Int32)) (H : Heap) (locs : List Loc) (ls : Array Slot), va_P D vwCl [(qn, .inr (1, [.int n_nodes, .int n_links, .int n_room, .int n_alive, .int n_inMap, .ref qn_low, .ref qn_high, .ref qn_length])), (qn_low, .inl (cI, 18, .inl n_low)), (qn_high, .inl (cI, 18, .inl n_high))] H → va_D A [(qn, .inr (1, [.int n_nodes, .int n_links, .int n_room, .int n_alive, .int n_inMap, .ref qn_low, .ref qn_high, .ref qn_length])), (qn_low, .inl (cI, 18, .inl n_low)), (qn_high, .inl (cI, 18, .inl n_high))] → va_S A s.heap H locs → lv_has ls 4 [(0, .ref qn), (1, .int x1), (2, .int x2), (3, .int x3)] → f_X1_countParts_b6 n6 x1 x2 x3 n_nodes n_links n_alive n_low n_high = some r → W p l e { frames := 2, cells := 0, slots := 0, locals := 47 } s m ([.ref qn] : List Value).toArray below meth c H locs 0 0 (MQ below (k_QI D r [(qn, .inr (1, [.int n_nodes, .int n_links, .int n_room, .int n_alive, .int n_inMap, .ref qn_low, .ref qn_high, .ref qn_length])), (qn_low, .inl (cI, 18, .inl n_low)), (qn_high, .inl (cI, 18, .inl n_high))] A) ([.ref qn] : List Value).toArray s 0 0 A) (F0 m 6 ls []) := by
    intro n6
    induction n6 with
    | zero =>
      intro x1 x2 x3 n_nodes n_links n_alive n_low n_high H locs ls hP hD hS hl h
      rw [f_X1_countParts_b6] at h
      cases h
    | succ n6 ih6 =>
      intro x1 x2 x3 n_nodes n_links n_alive n_low n_high H locs ls hP hD hS hl h
      rw [f_X1_countParts_b6] at h
      refine lv_iload_n hx hb dX1_countParts_6 rfl (lv_at hl 3 rfl) ?_
      refine lv_aload_n hx hb dX1_countParts_7 rfl (lv_at hl 0 rfl) ?_
      refine va_get (D := D) (ci := 1) (v := .int n_nodes) (C := RX1) (T := TX1) (N := 8) hx hb hu k_iX1 hown hK hP 0 rfl rfl 0 (by decide) (hu _ u_73) (fun _ h9 => h9) rfl dX1_countParts_8 ?_
      refine lv_icmp_ge (tgt := 43) hx hb dX1_countParts_11 (by decide) (fun cc_1 => ?_) (fun cc_1 => ?_)
      · have h := (if_pos cc_1).symm.trans h
        refine lv_iload_n hx hb dX1_countParts_43 rfl (lv_at hl 1 rfl) ?_
        have hq := Option.some.inj h
        clear h
        subst hq
        exact k_retI hx hb hr hlocks hP hD hS dX1_countParts_44
      · have h := (if_neg cc_1).symm.trans h
        refine lv_iload_n hx hb dX1_countParts_14 rfl (lv_at hl 2 rfl) ?_
        refine lv_iload_n hx hb dX1_countParts_15 rfl (lv_at hl 3 rfl) ?_
        refine k_call0N (As := [.int x2, .int x3]) (rest := []) ⟨hx, hb, hml, hown, hts⟩ hT hZ hA hP hD hS (c_X5_bit l D cI cZ cN aK aV x2 x3 _ rfl) ⟨va_cnB 2 hts (k_good u_393) rfl rfl rfl hT.2.2.2.2.2.1 (hu _ u_45) (by decide +kernel) ⟨Nat.le_of_ble_eq_true rfl, Nat.le_of_ble_eq_true rfl⟩, hu _ u_392, trivial⟩ rfl hl.1 rfl (Nat.le_of_ble_eq_true rfl) dX1_countParts_16 (fun H locs hP hD hS => ?_)
        refine lv_if_ne (tgt := 37) hx hb dX1_countParts_19 (by decide) (fun cc_2 => ?_) (fun cc_2 => ?_)
        · have h := (if_neg cc_2).symm.trans h
          refine lv_iinc (v := (x3 + (1 : Int32))) (lv' := [(3, .int (x3 + (1 : Int32))), (0, .ref qn), (1, .int x1), (2, .int x2)]) hx hb dX1_countParts_37 hl (k := 3) rfl rfl (by decide) rfl (fun ls hl => ?_)
          refine lv_goto (tgt := 6) hx hb dX1_countParts_40 (by decide) ?_
          exact ih6 x1 x2 (x3 + (1 : Int32)) n_nodes n_links n_alive n_low n_high _ _ _ hP hD hS (lv_sub hl [1, 2, 3, 0] rfl) h
        · have h := (if_pos cc_2).symm.trans h
          refine lv_iinc (v := (x1 + (1 : Int32))) (lv' := [(1, .int (x1 + (1 : Int32))), (0, .ref qn), (2, .int x2), (3, .int x3)]) hx hb dX1_countParts_22 hl (k := 1) rfl rfl (by decide) rfl (fun ls hl => ?_)
          refine lv_iload_n hx hb dX1_countParts_25 rfl (lv_at hl 2 rfl) ?_
          refine lv_aload_n hx hb dX1_countParts_26 rfl (lv_at hl 1 rfl) ?_
          refine lv_iload_n hx hb dX1_countParts_27 rfl (lv_at hl 3 rfl) ?_
          refine lv_aload_n hx hb dX1_countParts_28 rfl (lv_at hl 1 rfl) ?_
          refine va_get (D := D) (ci := 1) (v := .int n_alive) (C := RX1) (T := TX1) (N := 8) hx hb hu k_iX1 hown hK hP 0 rfl rfl 3 (by decide) (hu _ u_82) (fun _ h9 => h9) rfl dX1_countParts_29 ?_
          obtain ⟨r_3, hc_4, h⟩ := ob_bind h
          refine k_callVIr (qb := 0) [0, 1, 2] (As := [.int x3, .int n_alive]) (rest := [.int x2]) ⟨hx, hb, hml, hown, hts⟩ hT hZ hA hP hD hS (c_X1_reachedFrom l D cI cZ cN aK aV qn qn_low qn_high qn_length n_nodes n_links n_room n_alive n_inMap n_low n_high x3 n_alive r_3 hc_4) ⟨callB_of 2 hts (k_good u_438) rfl rfl rfl (hu _ u_46) (hu _ u_435) (by decide +kernel) ⟨Nat.le_of_ble_eq_true rfl, Nat.le_of_ble_eq_true rfl⟩, hu _ u_436, hu _ u_437⟩ rfl rfl rfl (by decide) rfl hl.1 rfl (Nat.le_of_ble_eq_true rfl) dX1_countParts_32 (fun H locs hP hD hS => ?_)
          refine lv_ior hx hb dX1_countParts_35 ?_
          refine lv_istore_n (lv' := [(2, .int (x2 ||| r_3)), (1, .int (x1 + (1 : Int32))), (0, .ref qn), (3, .int x3)]) hx hb dX1_countParts_36 rfl hl (by decide) rfl (fun ls hl => ?_)
          refine lv_iinc (v := (x3 + (1 : Int32))) (lv' := [(3, .int (x3 + (1 : Int32))), (2, .int (x2 ||| r_3)), (1, .int (x1 + (1 : Int32))), (0, .ref qn)]) hx hb dX1_countParts_37 hl (k := 3) rfl rfl (by decide) rfl (fun ls hl => ?_)
          refine lv_goto (tgt := 6) hx hb dX1_countParts_40 (by decide) ?_
          exact ih6 (x1 + (1 : Int32)) (x2 ||| r_3) (x3 + (1 : Int32)) n_nodes n_links n_alive n_low n_high _ _ _ hP hD hS (lv_sub hl [3, 2, 1, 0] rfl) h
  refine lv_iconst (v := (0 : Int32)) hx hb dX1_countParts_0 (by decide) ?_
  refine lv_istore_n (lv' := [(1, .int (0 : Int32)), (0, .ref qn)]) hx hb dX1_countParts_1 rfl hl (by decide) rfl (fun ls hl => ?_)
  refine lv_iconst (v := (0 : Int32)) hx hb dX1_countParts_2 (by decide) ?_
  refine lv_istore_n (lv' := [(2, .int (0 : Int32)), (1, .int (0 : Int32)), (0, .ref qn)]) hx hb dX1_countParts_3 rfl hl (by decide) rfl (fun ls hl => ?_)
  refine lv_iconst (v := (0 : Int32)) hx hb dX1_countParts_4 (by decide) ?_
  refine lv_istore_n (lv' := [(3, .int (0 : Int32)), (2, .int (0 : Int32)), (1, .int (0 : Int32)), (0, .ref qn)]) hx hb dX1_countParts_5 rfl hl (by decide) rfl (fun ls hl => ?_)
  exact w6 1000 (0 : Int32) (0 : Int32) (0 : Int32) n_nodes n_links n_alive n_low n_high _ _ _ hP hD hS (lv_sub hl [3, 2, 1, 0] rfl) h
def f_X1_pairsJoined_b4  : Nat → Int32 → Int32 → Int32 → Int32 → Int32 → (Nat → Int32) → (Nat → Int32) → Option (Int32)
  | 0, _, _, _, _, _, _, _ => none
  | n + 1, x1, x2, x3, n_nodes, n_links, n_low, n_high =>
    if n_nodes ≤ x3 then
      some (x2)
    else
      (f_X1_reachedFrom x3 x1 n_nodes n_links n_low n_high).bind fun r_2 =>
      (f_X1_pairsJoined_b4 n) x1 (x2 + ((f_J6_bitCount_0f7a4 r_2) - (1 : Int32))) (x3 + (1 : Int32)) n_nodes n_links n_low n_high
def f_X1_pairsJoined (p1 : Int32) (n_nodes : Int32) (n_links : Int32) (n_low : (Nat → Int32)) (n_high : (Nat → Int32)) : Option (Int32) :=
  f_X1_pairsJoined_b4 1000 p1 (0 : Int32) (0 : Int32) n_nodes n_links n_low n_high
set_option maxHeartbeats 4000000 in
set_option maxRecDepth 100000 in
theorem c_X1_pairsJoined (l : Launch) (D : va_G) (cI cZ cN : ClassId) (aK aV : Nat → Nat)  (qn : Nat) (qn_low : Nat) (qn_high : Nat) (qn_length : Nat) (n_nodes : Int32) (n_links : Int32) (n_room : Int32) (n_alive : Int32) (n_inMap : Int32) (n_low : (Nat → Int32)) (n_high : (Nat → Int32)) (p1 : Int32) (r : Int32) (h : f_X1_pairsJoined p1 n_nodes n_links n_low n_high = some r) : CtI l D cI cZ cN aK aV yX1_pairsJoined (k_W yX1_pairsJoined cX1_pairsJoined 4 (some .int)) { frames := 2, cells := 0, slots := 0, locals := 47 } [.ref qn, .int p1] [(qn, .inr (1, [.int n_nodes, .int n_links, .int n_room, .int n_alive, .int n_inMap, .ref qn_low, .ref qn_high, .ref qn_length])), (qn_low, .inl (cI, 18, .inl n_low)), (qn_high, .inl (cI, 18, .inl n_high))] r [(qn, .inr (1, [.int n_nodes, .int n_links, .int n_room, .int n_alive, .int n_inMap, .ref qn_low, .ref qn_high, .ref qn_length])), (qn_low, .inl (cI, 18, .inl n_low)), (qn_high, .inl (cI, 18, .inl n_high))] := by
  refine k_startI (by decide) (Nat.le_of_ble_eq_true rfl) ?_
  intro p e s m below meth c A ls hx hb hr hml hown hts hlocks hT hZ hA hP hD hS hl
  have hK := hT.1
  have hu : ∀ w ∈ k_U, w.before ([.ref qn, .int p1] : List Value).toArray s = true := fun w h => hts w (List.mem_cons_of_mem _ h)
  have hown : s.vm.findClass RX1 = some m.cls := hown
  have hl : lv_has ls 4 [(0, .ref qn), (1, .int p1)] := hl
  unfold f_X1_pairsJoined at h
  have w4 : ∀ (n4 : Nat) (x1 : Int32) (x2 : Int32) (x3 : Int32) (n_nodes : Int32) (n_links : Int32) (n_low : (Nat → Int32)) (n_high : (Nat → Int32)) (H : Heap) (locs : List Loc) (ls : Array Slot), va_P D vwCl [(qn, .inr (1, [.int n_nodes, .int n_links, .int n_room, .int n_alive, .int n_inMap, .ref qn_low, .ref qn_high, .ref qn_length])), (qn_low, .inl (cI, 18, .inl n_low)), (qn_high, .inl (cI, 18, .inl n_high))] H → va_D A [(qn, .inr (1, [.int n_nodes, .int n_links, .int n_room, .int n_alive, .int n_inMap, .ref qn_low, .ref qn_high, .ref qn_length])), (qn_low, .inl (cI, 18, .inl n_low)), (qn_high, .inl (cI, 18, .inl n_high))] → va_S A s.heap H locs → lv_has ls 4 [(0, .ref qn), (1, .int x1), (2, .int x2), (3, .int x3)] → f_X1_pairsJoined_b4 n4 x1 x2 x3 n_nodes n_links n_low n_high = some r → W p l e { frames := 2, cells := 0, slots := 0, locals := 47 } s m ([.ref qn, .int p1] : List Value).toArray below meth c H locs 0 0 (MQ below (k_QI D r [(qn, .inr (1, [.int n_nodes, .int n_links, .int n_room, .int n_alive, .int n_inMap, .ref qn_low, .ref qn_high, .ref qn_length])), (qn_low, .inl (cI, 18, .inl n_low)), (qn_high, .inl (cI, 18, .inl n_high))] A) ([.ref qn, .int p1] : List Value).toArray s 0 0 A) (F0 m 4 ls []) := by
    intro n4
    induction n4 with
    | zero =>
      intro x1 x2 x3 n_nodes n_links n_low n_high H locs ls hP hD hS hl h
      rw [f_X1_pairsJoined_b4] at h
      cases h
    | succ n4 ih4 =>
      intro x1 x2 x3 n_nodes n_links n_low n_high H locs ls hP hD hS hl h
      rw [f_X1_pairsJoined_b4] at h
      refine lv_iload_n hx hb dX1_pairsJoined_4 rfl (lv_at hl 3 rfl) ?_
      refine lv_aload_n hx hb dX1_pairsJoined_5 rfl (lv_at hl 0 rfl) ?_
      refine va_get (D := D) (ci := 1) (v := .int n_nodes) (C := RX1) (T := TX1) (N := 8) hx hb hu k_iX1 hown hK hP 0 rfl rfl 0 (by decide) (hu _ u_73) (fun _ h9 => h9) rfl dX1_pairsJoined_6 ?_
      refine lv_icmp_ge (tgt := 32) hx hb dX1_pairsJoined_9 (by decide) (fun cc_1 => ?_) (fun cc_1 => ?_)
      · have h := (if_pos cc_1).symm.trans h
        refine lv_iload_n hx hb dX1_pairsJoined_32 rfl (lv_at hl 2 rfl) ?_
        have hq := Option.some.inj h
        clear h
        subst hq
        exact k_retI hx hb hr hlocks hP hD hS dX1_pairsJoined_33
      · have h := (if_neg cc_1).symm.trans h
        refine lv_iload_n hx hb dX1_pairsJoined_12 rfl (lv_at hl 2 rfl) ?_
        refine lv_aload_n hx hb dX1_pairsJoined_13 rfl (lv_at hl 0 rfl) ?_
        refine lv_iload_n hx hb dX1_pairsJoined_14 rfl (lv_at hl 3 rfl) ?_
        refine lv_iload_n hx hb dX1_pairsJoined_15 rfl (lv_at hl 1 rfl) ?_
        obtain ⟨r_2, hc_3, h⟩ := ob_bind h
        refine k_callVIr (qb := 0) [0, 1, 2] (As := [.int x3, .int x1]) (rest := [.int x2]) ⟨hx, hb, hml, hown, hts⟩ hT hZ hA hP hD hS (c_X1_reachedFrom l D cI cZ cN aK aV qn qn_low qn_high qn_length n_nodes n_links n_room n_alive n_inMap n_low n_high x3 x1 r_2 hc_3) ⟨callB_of 2 hts (k_good u_438) rfl rfl rfl (hu _ u_46) (hu _ u_435) (by decide +kernel) ⟨Nat.le_of_ble_eq_true rfl, Nat.le_of_ble_eq_true rfl⟩, hu _ u_436, hu _ u_437⟩ rfl rfl rfl (by decide) rfl hl.1 rfl (Nat.le_of_ble_eq_true rfl) dX1_pairsJoined_16 (fun H locs hP hD hS => ?_)
        refine k_call0 (As := [.int r_2]) (rest := [.int x2]) ⟨hx, hb, hml, hown, hts⟩ hT hZ hA hP hD hS (c_J6_bitCount_0f7a4 l D cI cZ cN aK aV r_2 _ rfl) ⟨callB_of 1 hts (k_good u_409) rfl rfl rfl (hu _ u_53) (hu _ u_407) (by decide +kernel) ⟨Nat.le_of_ble_eq_true rfl, Nat.le_of_ble_eq_true rfl⟩, hu _ u_408⟩ rfl hl.1 rfl (Nat.le_of_ble_eq_true rfl) dX1_pairsJoined_19 (fun H locs hP hD hS => ?_)
        refine lv_iconst (v := (1 : Int32)) hx hb dX1_pairsJoined_22 (by decide) ?_
        refine lv_isub hx hb dX1_pairsJoined_23 ?_
        refine lv_iadd hx hb dX1_pairsJoined_24 ?_
        refine lv_istore_n (lv' := [(2, .int (x2 + ((f_J6_bitCount_0f7a4 r_2) - (1 : Int32)))), (0, .ref qn), (1, .int x1), (3, .int x3)]) hx hb dX1_pairsJoined_25 rfl hl (by decide) rfl (fun ls hl => ?_)
        refine lv_iinc (v := (x3 + (1 : Int32))) (lv' := [(3, .int (x3 + (1 : Int32))), (2, .int (x2 + ((f_J6_bitCount_0f7a4 r_2) - (1 : Int32)))), (0, .ref qn), (1, .int x1)]) hx hb dX1_pairsJoined_26 hl (k := 3) rfl rfl (by decide) rfl (fun ls hl => ?_)
        refine lv_goto (tgt := 4) hx hb dX1_pairsJoined_29 (by decide) ?_
        exact ih4 x1 (x2 + ((f_J6_bitCount_0f7a4 r_2) - (1 : Int32))) (x3 + (1 : Int32)) n_nodes n_links n_low n_high _ _ _ hP hD hS (lv_sub hl [2, 3, 1, 0] rfl) h
  refine lv_iconst (v := (0 : Int32)) hx hb dX1_pairsJoined_0 (by decide) ?_
  refine lv_istore_n (lv' := [(2, .int (0 : Int32)), (0, .ref qn), (1, .int p1)]) hx hb dX1_pairsJoined_1 rfl hl (by decide) rfl (fun ls hl => ?_)
  refine lv_iconst (v := (0 : Int32)) hx hb dX1_pairsJoined_2 (by decide) ?_
  refine lv_istore_n (lv' := [(3, .int (0 : Int32)), (2, .int (0 : Int32)), (0, .ref qn), (1, .int p1)]) hx hb dX1_pairsJoined_3 rfl hl (by decide) rfl (fun ls hl => ?_)
  exact w4 1000 p1 (0 : Int32) (0 : Int32) n_nodes n_links n_low n_high _ _ _ hP hD hS (lv_sub hl [2, 3, 1, 0] rfl) h
