def f_J7_fill_53178_b5  : Nat → Int32 → Int32 → Int32 → (Nat → Int32) → Option ((Nat → Int32))
  | 0, _, _, _, _ => none
  | n + 1, x1, x2, x3, a =>
    if x3 ≤ x2 then
      some (a)
    else
      if inb x2 9 = true then
      (f_J7_fill_53178_b5 n) x1 (x2 + (1 : Int32)) x3 (upd a (Int32.toNatClampNeg x2) x1)
      else none
def f_J7_fill_53178 (p1 : Int32) (a : (Nat → Int32)) : Option ((Nat → Int32)) :=
  f_J7_fill_53178_b5 1000 p1 (0 : Int32) (Int32.ofNat 9) a
set_option maxHeartbeats 4000000 in
set_option maxRecDepth 100000 in
theorem c_J7_fill_53178 (l : Launch) (D : va_G) (cI cZ cN : ClassId) (aK aV : Nat → Nat)  (qa : Nat) (a : (Nat → Int32)) (p1 : Int32) (z_a : (Nat → Int32)) (h : f_J7_fill_53178 p1 a = some z_a) : CtV l D cI cZ cN aK aV yJ7_fill_53178 (k_W yJ7_fill_53178 cJ7_fill_53178 4 none) { frames := 0, cells := 0, slots := 0, locals := 0 } [.ref qa, .int p1] [(qa, .inl (cI, 9, .inl a))] [(qa, .inl (cI, 9, .inl z_a))] := by
  refine k_startV (by decide) (Nat.le_of_ble_eq_true rfl) ?_
  intro p e s m below meth c A ls hx hb hr hml hown hts hlocks hT hZ hA hP hD hS hl
  have hK := hT.1
  have hu : ∀ w ∈ k_U, w.before ([.ref qa, .int p1] : List Value).toArray s = true := fun w h => hts w (List.mem_cons_of_mem _ h)
  have hown : s.vm.findClass RJ7 = some m.cls := hown
  have hl : lv_has ls 4 [(0, .ref qa), (1, .int p1)] := hl
  unfold f_J7_fill_53178 at h
  have w5 : ∀ (n5 : Nat) (x1 : Int32) (x2 : Int32) (x3 : Int32) (a : (Nat → Int32)) (H : Heap) (locs : List Loc) (ls : Array Slot), va_P D vwCl [(qa, .inl (cI, 9, .inl a))] H → va_D A [(qa, .inl (cI, 9, .inl a))] → va_S A s.heap H locs → lv_has ls 4 [(0, .ref qa), (1, .int x1), (2, .int x2), (3, .int x3)] → f_J7_fill_53178_b5 n5 x1 x2 x3 a = some z_a → W p l e { frames := 0, cells := 0, slots := 0, locals := 0 } s m ([.ref qa, .int p1] : List Value).toArray below meth c H locs 0 0 (MQ below (k_QV D [(qa, .inl (cI, 9, .inl z_a))] A) ([.ref qa, .int p1] : List Value).toArray s 0 0 A) (F0 m 5 ls []) := by
    intro n5
    induction n5 with
    | zero =>
      intro x1 x2 x3 a H locs ls hP hD hS hl h
      rw [f_J7_fill_53178_b5] at h
      cases h
    | succ n5 ih5 =>
      intro x1 x2 x3 a H locs ls hP hD hS hl h
      rw [f_J7_fill_53178_b5] at h
      refine lv_iload_n hx hb dJ7_fill_53178_5 rfl (lv_at hl 2 rfl) ?_
      refine lv_iload_n hx hb dJ7_fill_53178_6 rfl (lv_at hl 3 rfl) ?_
      refine lv_icmp_ge (tgt := 20) hx hb dJ7_fill_53178_7 (by decide) (fun cc_1 => ?_) (fun cc_1 => ?_)
      · have h := (if_pos cc_1).symm.trans h
        have hq := Option.some.inj h
        clear h
        subst hq
        exact k_retV hx hb hr hlocks hP hD hS dJ7_fill_53178_20
      · have h := (if_neg cc_1).symm.trans h
        refine lv_aload_n hx hb dJ7_fill_53178_10 rfl (lv_at hl 0 rfl) ?_
        refine lv_iload_n hx hb dJ7_fill_53178_11 rfl (lv_at hl 2 rfl) ?_
        refine lv_iload_n hx hb dJ7_fill_53178_12 rfl (lv_at hl 1 rfl) ?_
        obtain ⟨hin_2, h⟩ := ob_if h
        have hin_2 := inb_in hin_2
        refine va_iast (D := D) hx hb hK hP hD hS 0 0 rfl rfl hin_2 dJ7_fill_53178_13 (fun H locs hP hD hS => ?_)
        have hP : va_P D vwCl [(qa, .inl (cI, 9, .inl (upd a (Int32.toNatClampNeg x2) x1)))] H := hP
        have hD : va_D A [(qa, .inl (cI, 9, .inl (upd a (Int32.toNatClampNeg x2) x1)))] := hD
        refine lv_iinc (v := (x2 + (1 : Int32))) (lv' := [(2, .int (x2 + (1 : Int32))), (0, .ref qa), (1, .int x1), (3, .int x3)]) hx hb dJ7_fill_53178_14 hl (k := 2) rfl rfl (by decide) rfl (fun ls hl => ?_)
        refine lv_goto (tgt := 5) hx hb dJ7_fill_53178_17 (by decide) ?_
        exact ih5 x1 (x2 + (1 : Int32)) x3 (upd a (Int32.toNatClampNeg x2) x1) _ _ _ hP hD hS (lv_sub hl [1, 2, 0, 3] rfl) h
  refine lv_iconst (v := (0 : Int32)) hx hb dJ7_fill_53178_0 (by decide) ?_
  refine lv_istore_n (lv' := [(2, .int (0 : Int32)), (0, .ref qa), (1, .int p1)]) hx hb dJ7_fill_53178_1 rfl hl (by decide) rfl (fun ls hl => ?_)
  refine lv_aload_n hx hb dJ7_fill_53178_2 rfl (lv_at hl 1 rfl) ?_
  refine va_alen (D := D) (v := (Int32.ofNat 9)) hx hb hK hP 0 0 rfl (ty := .int) rfl rfl dJ7_fill_53178_3 ?_
  refine lv_istore_n (lv' := [(3, .int (Int32.ofNat 9)), (2, .int (0 : Int32)), (0, .ref qa), (1, .int p1)]) hx hb dJ7_fill_53178_4 rfl hl (by decide) rfl (fun ls hl => ?_)
  exact w5 1000 p1 (0 : Int32) (Int32.ofNat 9) a _ _ _ hP hD hS (lv_sub hl [2, 3, 1, 0] rfl) h
def f_X4_weight (p1 : Int32) (n_length : (Nat → Int32)) : Option (Int32) :=
  if inb p1 18 = true then
  some ((((n_length (Int32.toNatClampNeg p1)) <<< ((4 : Int32) &&& (31 : Int32))) + (1 : Int32)))
  else none
set_option maxHeartbeats 4000000 in
set_option maxRecDepth 100000 in
theorem c_X4_weight (l : Launch) (D : va_G) (cI cZ cN : ClassId) (aK aV : Nat → Nat)  (qy : Nat) (qy_far : Nat) (qn : Nat) (qn_low : Nat) (qn_high : Nat) (qn_length : Nat) (y_usable : Int32) (n_nodes : Int32) (n_links : Int32) (n_room : Int32) (n_alive : Int32) (n_inMap : Int32) (n_length : (Nat → Int32)) (p1 : Int32) (r : Int32) (h : f_X4_weight p1 n_length = some r) : CtI l D cI cZ cN aK aV yX4_weight (k_W yX4_weight cX4_weight 2 (some .int)) { frames := 0, cells := 0, slots := 0, locals := 0 } [.ref qy, .int p1] [(qy, .inr (4, [.ref qn, .ref qy_far, .int y_usable])), (qn, .inr (1, [.int n_nodes, .int n_links, .int n_room, .int n_alive, .int n_inMap, .ref qn_low, .ref qn_high, .ref qn_length])), (qn_length, .inl (cI, 18, .inl n_length))] r [(qy, .inr (4, [.ref qn, .ref qy_far, .int y_usable])), (qn, .inr (1, [.int n_nodes, .int n_links, .int n_room, .int n_alive, .int n_inMap, .ref qn_low, .ref qn_high, .ref qn_length])), (qn_length, .inl (cI, 18, .inl n_length))] := by
  refine k_startI (by decide) (Nat.le_of_ble_eq_true rfl) ?_
  intro p e s m below meth c A ls hx hb hr hml hown hts hlocks hT hZ hA hP hD hS hl
  have hK := hT.1
  have hu : ∀ w ∈ k_U, w.before ([.ref qy, .int p1] : List Value).toArray s = true := fun w h => hts w (List.mem_cons_of_mem _ h)
  have hown : s.vm.findClass RX4 = some m.cls := hown
  have hl : lv_has ls 2 [(0, .ref qy), (1, .int p1)] := hl
  unfold f_X4_weight at h
  refine lv_aload_n hx hb dX4_weight_0 rfl (lv_at hl 0 rfl) ?_
  refine va_get (D := D) (ci := 4) (v := .ref qn) (C := RX4) (T := TX4) (N := 3) hx hb hu k_iX4 hown hK hP 0 rfl rfl 0 (by decide) (hu _ u_127) (fun _ h9 => h9) rfl dX4_weight_1 ?_
  refine va_get (D := D) (ci := 1) (v := .ref qn_length) (C := RX1) (T := TX1) (N := 8) hx hb hu k_iX1 hown hK hP 1 rfl rfl 7 (by decide) (hu _ u_100) (fun _ h9 => h9) rfl dX4_weight_4 ?_
  refine lv_iload_n hx hb dX4_weight_7 rfl (lv_at hl 1 rfl) ?_
  obtain ⟨hin_1, h⟩ := ob_if h
  have hin_1 := inb_in hin_1
  refine va_iald (D := D) hx hb hK hP 2 0 rfl rfl hin_1 dX4_weight_8 ?_
  refine lv_iconst (v := (4 : Int32)) hx hb dX4_weight_9 (by decide) ?_
  refine lv_ishl hx hb dX4_weight_10 ?_
  refine lv_iconst (v := (1 : Int32)) hx hb dX4_weight_11 (by decide) ?_
  refine lv_iadd hx hb dX4_weight_12 ?_
  have hq := Option.some.inj h
  clear h
  subst hq
  exact k_retI hx hb hr hlocks hP hD hS dX4_weight_13
def f_X4_bringNearer (p1 : Int32) (y_far : (Nat → Int32)) (n_low : (Nat → Int32)) (n_high : (Nat → Int32)) (n_length : (Nat → Int32)) : Option (Int32 × (Nat → Int32)) :=
  if inb p1 18 = true then
  (f_X4_weight p1 n_length).bind fun r_2 =>
  if inb (n_low (Int32.toNatClampNeg p1)) 9 = true then
  if inb (n_high (Int32.toNatClampNeg p1)) 9 = true then
  if (y_far (Int32.toNatClampNeg (n_high (Int32.toNatClampNeg p1)))) ≤ ((y_far (Int32.toNatClampNeg (n_low (Int32.toNatClampNeg p1)))) + r_2) then
    if (y_far (Int32.toNatClampNeg (n_low (Int32.toNatClampNeg p1)))) ≤ ((y_far (Int32.toNatClampNeg (n_high (Int32.toNatClampNeg p1)))) + r_2) then
      some ((0 : Int32), y_far)
    else
      some ((1 : Int32), (upd y_far (Int32.toNatClampNeg (n_low (Int32.toNatClampNeg p1))) ((y_far (Int32.toNatClampNeg (n_high (Int32.toNatClampNeg p1)))) + r_2)))
  else
    some ((1 : Int32), (upd y_far (Int32.toNatClampNeg (n_high (Int32.toNatClampNeg p1))) ((y_far (Int32.toNatClampNeg (n_low (Int32.toNatClampNeg p1)))) + r_2)))
  else none
  else none
  else none
set_option maxHeartbeats 4000000 in
set_option maxRecDepth 100000 in
theorem c_X4_bringNearer (l : Launch) (D : va_G) (cI cZ cN : ClassId) (aK aV : Nat → Nat)  (qy : Nat) (qy_far : Nat) (qn : Nat) (qn_low : Nat) (qn_high : Nat) (qn_length : Nat) (y_far : (Nat → Int32)) (y_usable : Int32) (n_nodes : Int32) (n_links : Int32) (n_room : Int32) (n_alive : Int32) (n_inMap : Int32) (n_low : (Nat → Int32)) (n_high : (Nat → Int32)) (n_length : (Nat → Int32)) (p1 : Int32) (r : Int32) (z_y_far : (Nat → Int32)) (h : f_X4_bringNearer p1 y_far n_low n_high n_length = some (r, z_y_far)) : CtI l D cI cZ cN aK aV yX4_bringNearer (k_W yX4_bringNearer cX4_bringNearer 5 (some .boolean)) { frames := 1, cells := 0, slots := 0, locals := 21 } [.ref qy, .int p1] [(qy, .inr (4, [.ref qn, .ref qy_far, .int y_usable])), (qy_far, .inl (cI, 9, .inl y_far)), (qn, .inr (1, [.int n_nodes, .int n_links, .int n_room, .int n_alive, .int n_inMap, .ref qn_low, .ref qn_high, .ref qn_length])), (qn_low, .inl (cI, 18, .inl n_low)), (qn_high, .inl (cI, 18, .inl n_high)), (qn_length, .inl (cI, 18, .inl n_length))] r [(qy, .inr (4, [.ref qn, .ref qy_far, .int y_usable])), (qy_far, .inl (cI, 9, .inl z_y_far)), (qn, .inr (1, [.int n_nodes, .int n_links, .int n_room, .int n_alive, .int n_inMap, .ref qn_low, .ref qn_high, .ref qn_length])), (qn_low, .inl (cI, 18, .inl n_low)), (qn_high, .inl (cI, 18, .inl n_high)), (qn_length, .inl (cI, 18, .inl n_length))] := by
  refine k_startI (by decide) (Nat.le_of_ble_eq_true rfl) ?_
  intro p e s m below meth c A ls hx hb hr hml hown hts hlocks hT hZ hA hP hD hS hl
  have hK := hT.1
  have hu : ∀ w ∈ k_U, w.before ([.ref qy, .int p1] : List Value).toArray s = true := fun w h => hts w (List.mem_cons_of_mem _ h)
  have hown : s.vm.findClass RX4 = some m.cls := hown
  have hl : lv_has ls 5 [(0, .ref qy), (1, .int p1)] := hl
  unfold f_X4_bringNearer at h
  refine lv_aload_n hx hb dX4_bringNearer_0 rfl (lv_at hl 0 rfl) ?_
  refine va_get (D := D) (ci := 4) (v := .ref qn) (C := RX4) (T := TX4) (N := 3) hx hb hu k_iX4 hown hK hP 0 rfl rfl 0 (by decide) (hu _ u_127) (fun _ h9 => h9) rfl dX4_bringNearer_1 ?_
  refine va_get (D := D) (ci := 1) (v := .ref qn_low) (C := RX1) (T := TX1) (N := 8) hx hb hu k_iX1 hown hK hP 2 rfl rfl 5 (by decide) (hu _ u_92) (fun _ h9 => h9) rfl dX4_bringNearer_4 ?_
  refine lv_iload_n hx hb dX4_bringNearer_7 rfl (lv_at hl 1 rfl) ?_
  obtain ⟨hin_1, h⟩ := ob_if h
  have hin_1 := inb_in hin_1
  refine va_iald (D := D) hx hb hK hP 3 0 rfl rfl hin_1 dX4_bringNearer_8 ?_
  refine lv_istore_n (lv' := [(2, .int (n_low (Int32.toNatClampNeg p1))), (0, .ref qy), (1, .int p1)]) hx hb dX4_bringNearer_9 rfl hl (by decide) rfl (fun ls hl => ?_)
  refine lv_aload_n hx hb dX4_bringNearer_10 rfl (lv_at hl 1 rfl) ?_
  refine va_get (D := D) (ci := 4) (v := .ref qn) (C := RX4) (T := TX4) (N := 3) hx hb hu k_iX4 hown hK hP 0 rfl rfl 0 (by decide) (hu _ u_127) (fun _ h9 => h9) rfl dX4_bringNearer_11 ?_
  refine va_get (D := D) (ci := 1) (v := .ref qn_high) (C := RX1) (T := TX1) (N := 8) hx hb hu k_iX1 hown hK hP 2 rfl rfl 6 (by decide) (hu _ u_96) (fun _ h9 => h9) rfl dX4_bringNearer_14 ?_
  refine lv_iload_n hx hb dX4_bringNearer_17 rfl (lv_at hl 2 rfl) ?_
  refine va_iald (D := D) hx hb hK hP 4 0 rfl rfl hin_1 dX4_bringNearer_18 ?_
  refine lv_istore_n (lv' := [(3, .int (n_high (Int32.toNatClampNeg p1))), (2, .int (n_low (Int32.toNatClampNeg p1))), (0, .ref qy), (1, .int p1)]) hx hb dX4_bringNearer_19 rfl hl (by decide) rfl (fun ls hl => ?_)
  refine lv_aload_n hx hb dX4_bringNearer_20 rfl (lv_at hl 2 rfl) ?_
  refine lv_iload_n hx hb dX4_bringNearer_21 rfl (lv_at hl 3 rfl) ?_
  obtain ⟨r_2, hc_3, h⟩ := ob_bind h
  refine k_callVIr (qb := 0) [0, 2, 5] (As := [.int p1]) (rest := []) ⟨hx, hb, hml, hown, hts⟩ hT hZ hA hP hD hS (c_X4_weight l D cI cZ cN aK aV qy qy_far qn qn_low qn_high qn_length y_usable n_nodes n_links n_room n_alive n_inMap n_length p1 r_2 hc_3) ⟨callB_of 1 hts (k_good u_473) rfl rfl rfl (hu _ u_47) (hu _ u_470) (by decide +kernel) ⟨Nat.le_of_ble_eq_true rfl, Nat.le_of_ble_eq_true rfl⟩, hu _ u_472, hu _ u_3⟩ rfl rfl rfl (by decide) rfl hl.1 rfl (Nat.le_of_ble_eq_true rfl) dX4_bringNearer_22 (fun H locs hP hD hS => ?_)
  refine lv_istore (lv' := [(4, .int r_2), (3, .int (n_high (Int32.toNatClampNeg p1))), (2, .int (n_low (Int32.toNatClampNeg p1))), (0, .ref qy), (1, .int p1)]) hx hb dX4_bringNearer_25 hl (by decide) rfl (fun ls hl => ?_)
  refine lv_aload_n hx hb dX4_bringNearer_27 rfl (lv_at hl 3 rfl) ?_
  refine va_get (D := D) (ci := 4) (v := .ref qy_far) (C := RX4) (T := TX4) (N := 3) hx hb hu k_iX4 hown hK hP 0 rfl rfl 1 (by decide) (hu _ u_128) (fun _ h9 => h9) rfl dX4_bringNearer_28 ?_
  refine lv_iload_n hx hb dX4_bringNearer_31 rfl (lv_at hl 2 rfl) ?_
  obtain ⟨hin_4, h⟩ := ob_if h
  have hin_4 := inb_in hin_4
  refine va_iald (D := D) hx hb hK hP 1 0 rfl rfl hin_4 dX4_bringNearer_32 ?_
  refine lv_iload hx hb dX4_bringNearer_33 (lv_at hl 0 rfl) ?_
  refine lv_iadd hx hb dX4_bringNearer_35 ?_
  refine lv_aload_n hx hb dX4_bringNearer_36 rfl (lv_at hl 3 rfl) ?_
  refine va_get (D := D) (ci := 4) (v := .ref qy_far) (C := RX4) (T := TX4) (N := 3) hx hb hu k_iX4 hown hK hP 0 rfl rfl 1 (by decide) (hu _ u_128) (fun _ h9 => h9) rfl dX4_bringNearer_37 ?_
  refine lv_iload_n hx hb dX4_bringNearer_40 rfl (lv_at hl 1 rfl) ?_
  obtain ⟨hin_5, h⟩ := ob_if h
  have hin_5 := inb_in hin_5
  refine va_iald (D := D) hx hb hK hP 1 0 rfl rfl hin_5 dX4_bringNearer_41 ?_
  refine lv_icmp_ge (tgt := 62) hx hb dX4_bringNearer_42 (by decide) (fun cc_6 => ?_) (fun cc_6 => ?_)
  · have h := (if_pos cc_6).symm.trans h
    refine lv_aload_n hx hb dX4_bringNearer_62 rfl (lv_at hl 3 rfl) ?_
    refine va_get (D := D) (ci := 4) (v := .ref qy_far) (C := RX4) (T := TX4) (N := 3) hx hb hu k_iX4 hown hK hP 0 rfl rfl 1 (by decide) (hu _ u_128) (fun _ h9 => h9) rfl dX4_bringNearer_63 ?_
    refine lv_iload_n hx hb dX4_bringNearer_66 rfl (lv_at hl 1 rfl) ?_
    refine va_iald (D := D) hx hb hK hP 1 0 rfl rfl hin_5 dX4_bringNearer_67 ?_
    refine lv_iload hx hb dX4_bringNearer_68 (lv_at hl 0 rfl) ?_
    refine lv_iadd hx hb dX4_bringNearer_70 ?_
    refine lv_aload_n hx hb dX4_bringNearer_71 rfl (lv_at hl 3 rfl) ?_
    refine va_get (D := D) (ci := 4) (v := .ref qy_far) (C := RX4) (T := TX4) (N := 3) hx hb hu k_iX4 hown hK hP 0 rfl rfl 1 (by decide) (hu _ u_128) (fun _ h9 => h9) rfl dX4_bringNearer_72 ?_
    refine lv_iload_n hx hb dX4_bringNearer_75 rfl (lv_at hl 2 rfl) ?_
    refine va_iald (D := D) hx hb hK hP 1 0 rfl rfl hin_4 dX4_bringNearer_76 ?_
    refine lv_icmp_ge (tgt := 97) hx hb dX4_bringNearer_77 (by decide) (fun cc_7 => ?_) (fun cc_7 => ?_)
    · have h := (if_pos cc_7).symm.trans h
      refine lv_iconst (v := (0 : Int32)) hx hb dX4_bringNearer_97 (by decide) ?_
      have hq := Option.some.inj h
      clear h
      obtain ⟨e0, hq0⟩ := Prod.mk.inj hq
      clear hq
      subst e0
      subst hq0
      exact k_retZ hx hb hr hlocks (Or.inl rfl) hP hD hS dX4_bringNearer_98
    · have h := (if_neg cc_7).symm.trans h
      refine lv_aload_n hx hb dX4_bringNearer_80 rfl (lv_at hl 3 rfl) ?_
      refine va_get (D := D) (ci := 4) (v := .ref qy_far) (C := RX4) (T := TX4) (N := 3) hx hb hu k_iX4 hown hK hP 0 rfl rfl 1 (by decide) (hu _ u_128) (fun _ h9 => h9) rfl dX4_bringNearer_81 ?_
      refine lv_iload_n hx hb dX4_bringNearer_84 rfl (lv_at hl 2 rfl) ?_
      refine lv_aload_n hx hb dX4_bringNearer_85 rfl (lv_at hl 3 rfl) ?_
      refine va_get (D := D) (ci := 4) (v := .ref qy_far) (C := RX4) (T := TX4) (N := 3) hx hb hu k_iX4 hown hK hP 0 rfl rfl 1 (by decide) (hu _ u_128) (fun _ h9 => h9) rfl dX4_bringNearer_86 ?_
      refine lv_iload_n hx hb dX4_bringNearer_89 rfl (lv_at hl 1 rfl) ?_
      refine va_iald (D := D) hx hb hK hP 1 0 rfl rfl hin_5 dX4_bringNearer_90 ?_
      refine lv_iload hx hb dX4_bringNearer_91 (lv_at hl 0 rfl) ?_
      refine lv_iadd hx hb dX4_bringNearer_93 ?_
      refine va_iast (D := D) hx hb hK hP hD hS 1 0 rfl rfl hin_4 dX4_bringNearer_94 (fun H locs hP hD hS => ?_)
      have hP : va_P D vwCl [(qy, .inr (4, [.ref qn, .ref qy_far, .int y_usable])), (qy_far, .inl (cI, 9, .inl (upd y_far (Int32.toNatClampNeg (n_low (Int32.toNatClampNeg p1))) ((y_far (Int32.toNatClampNeg (n_high (Int32.toNatClampNeg p1)))) + r_2)))), (qn, .inr (1, [.int n_nodes, .int n_links, .int n_room, .int n_alive, .int n_inMap, .ref qn_low, .ref qn_high, .ref qn_length])), (qn_low, .inl (cI, 18, .inl n_low)), (qn_high, .inl (cI, 18, .inl n_high)), (qn_length, .inl (cI, 18, .inl n_length))] H := hP
      have hD : va_D A [(qy, .inr (4, [.ref qn, .ref qy_far, .int y_usable])), (qy_far, .inl (cI, 9, .inl (upd y_far (Int32.toNatClampNeg (n_low (Int32.toNatClampNeg p1))) ((y_far (Int32.toNatClampNeg (n_high (Int32.toNatClampNeg p1)))) + r_2)))), (qn, .inr (1, [.int n_nodes, .int n_links, .int n_room, .int n_alive, .int n_inMap, .ref qn_low, .ref qn_high, .ref qn_length])), (qn_low, .inl (cI, 18, .inl n_low)), (qn_high, .inl (cI, 18, .inl n_high)), (qn_length, .inl (cI, 18, .inl n_length))] := hD
      refine lv_iconst (v := (1 : Int32)) hx hb dX4_bringNearer_95 (by decide) ?_
      have hq := Option.some.inj h
      clear h
      obtain ⟨e0, hq0⟩ := Prod.mk.inj hq
      clear hq
      subst e0
      subst hq0
      exact k_retZ hx hb hr hlocks (Or.inr rfl) hP hD hS dX4_bringNearer_96
  · have h := (if_neg cc_6).symm.trans h
    refine lv_aload_n hx hb dX4_bringNearer_45 rfl (lv_at hl 3 rfl) ?_
    refine va_get (D := D) (ci := 4) (v := .ref qy_far) (C := RX4) (T := TX4) (N := 3) hx hb hu k_iX4 hown hK hP 0 rfl rfl 1 (by decide) (hu _ u_128) (fun _ h9 => h9) rfl dX4_bringNearer_46 ?_
    refine lv_iload_n hx hb dX4_bringNearer_49 rfl (lv_at hl 1 rfl) ?_
    refine lv_aload_n hx hb dX4_bringNearer_50 rfl (lv_at hl 3 rfl) ?_
    refine va_get (D := D) (ci := 4) (v := .ref qy_far) (C := RX4) (T := TX4) (N := 3) hx hb hu k_iX4 hown hK hP 0 rfl rfl 1 (by decide) (hu _ u_128) (fun _ h9 => h9) rfl dX4_bringNearer_51 ?_
    refine lv_iload_n hx hb dX4_bringNearer_54 rfl (lv_at hl 2 rfl) ?_
    refine va_iald (D := D) hx hb hK hP 1 0 rfl rfl hin_4 dX4_bringNearer_55 ?_
    refine lv_iload hx hb dX4_bringNearer_56 (lv_at hl 0 rfl) ?_
    refine lv_iadd hx hb dX4_bringNearer_58 ?_
    refine va_iast (D := D) hx hb hK hP hD hS 1 0 rfl rfl hin_5 dX4_bringNearer_59 (fun H locs hP hD hS => ?_)
    have hP : va_P D vwCl [(qy, .inr (4, [.ref qn, .ref qy_far, .int y_usable])), (qy_far, .inl (cI, 9, .inl (upd y_far (Int32.toNatClampNeg (n_high (Int32.toNatClampNeg p1))) ((y_far (Int32.toNatClampNeg (n_low (Int32.toNatClampNeg p1)))) + r_2)))), (qn, .inr (1, [.int n_nodes, .int n_links, .int n_room, .int n_alive, .int n_inMap, .ref qn_low, .ref qn_high, .ref qn_length])), (qn_low, .inl (cI, 18, .inl n_low)), (qn_high, .inl (cI, 18, .inl n_high)), (qn_length, .inl (cI, 18, .inl n_length))] H := hP
    have hD : va_D A [(qy, .inr (4, [.ref qn, .ref qy_far, .int y_usable])), (qy_far, .inl (cI, 9, .inl (upd y_far (Int32.toNatClampNeg (n_high (Int32.toNatClampNeg p1))) ((y_far (Int32.toNatClampNeg (n_low (Int32.toNatClampNeg p1)))) + r_2)))), (qn, .inr (1, [.int n_nodes, .int n_links, .int n_room, .int n_alive, .int n_inMap, .ref qn_low, .ref qn_high, .ref qn_length])), (qn_low, .inl (cI, 18, .inl n_low)), (qn_high, .inl (cI, 18, .inl n_high)), (qn_length, .inl (cI, 18, .inl n_length))] := hD
    refine lv_iconst (v := (1 : Int32)) hx hb dX4_bringNearer_60 (by decide) ?_
    have hq := Option.some.inj h
    clear h
    obtain ⟨e0, hq0⟩ := Prod.mk.inj hq
    clear hq
    subst e0
    subst hq0
    exact k_retZ hx hb hr hlocks (Or.inr rfl) hP hD hS dX4_bringNearer_61
def f_X4_measure_b47 (k26 : Int32 → Int32 → (Nat → Int32) → Int32 → Int32 → Int32 → (Nat → Int32) → (Nat → Int32) → (Nat → Int32) → Option ((Nat → Int32) × Int32)) : Nat → Int32 → Int32 → Int32 → (Nat → Int32) → Int32 → Int32 → Int32 → (Nat → Int32) → (Nat → Int32) → (Nat → Int32) → Option ((Nat → Int32) × Int32)
  | 0, _, _, _, _, _, _, _, _, _, _ => none
  | n + 1, x3, x4, x5, y_far, y_usable, n_nodes, n_links, n_low, n_high, n_length =>
    if n_links ≤ x5 then
      k26 x3 (x4 + (1 : Int32)) y_far y_usable n_nodes n_links n_low n_high n_length
    else
      if (f_X5_bit y_usable x5) = (1 : Int32) then
        (f_X4_bringNearer x5 y_far n_low n_high n_length).bind fun ⟨r_8, o_9⟩ =>
        if r_8 = (0 : Int32) then
          (f_X4_measure_b47 k26 n) x3 x4 (x5 + (1 : Int32)) o_9 y_usable n_nodes n_links n_low n_high n_length
        else
          (f_X4_measure_b47 k26 n) (1 : Int32) x4 (x5 + (1 : Int32)) o_9 y_usable n_nodes n_links n_low n_high n_length
      else
        (f_X4_measure_b47 k26 n) x3 x4 (x5 + (1 : Int32)) y_far y_usable n_nodes n_links n_low n_high n_length
def f_X4_measure_b26  : Nat → Int32 → Int32 → (Nat → Int32) → Int32 → Int32 → Int32 → (Nat → Int32) → (Nat → Int32) → (Nat → Int32) → Option ((Nat → Int32) × Int32)
  | 0, _, _, _, _, _, _, _, _, _ => none
  | n + 1, x3, x4, y_far, y_usable, n_nodes, n_links, n_low, n_high, n_length =>
    if n_nodes ≤ x4 then
      some (y_far, y_usable)
    else
      if x3 = (0 : Int32) then
        some (y_far, y_usable)
      else
        f_X4_measure_b47 (f_X4_measure_b26 n) 1000 (0 : Int32) x4 (0 : Int32) y_far y_usable n_nodes n_links n_low n_high n_length
def f_X4_measure (p1 : Int32) (p2 : Int32) (y_far : (Nat → Int32)) (y_usable : Int32) (n_nodes : Int32) (n_links : Int32) (n_low : (Nat → Int32)) (n_high : (Nat → Int32)) (n_length : (Nat → Int32)) : Option ((Nat → Int32) × Int32) :=
  (f_J7_fill_53178 (1048576 : Int32) y_far).bind fun o_1 =>
  if inb p2 9 = true then
  f_X4_measure_b26 1000 (1 : Int32) (0 : Int32) (upd o_1 (Int32.toNatClampNeg p2) (0 : Int32)) p1 n_nodes n_links n_low n_high n_length
  else none
set_option maxHeartbeats 4000000 in
set_option maxRecDepth 100000 in
theorem c_X4_measure (l : Launch) (D : va_G) (cI cZ cN : ClassId) (aK aV : Nat → Nat)  (qy : Nat) (qy_far : Nat) (qn : Nat) (qn_low : Nat) (qn_high : Nat) (qn_length : Nat) (y_far : (Nat → Int32)) (y_usable : Int32) (n_nodes : Int32) (n_links : Int32) (n_room : Int32) (n_alive : Int32) (n_inMap : Int32) (n_low : (Nat → Int32)) (n_high : (Nat → Int32)) (n_length : (Nat → Int32)) (p1 p2 : Int32) (z_y_far : (Nat → Int32)) (z_y_usable : Int32) (h : f_X4_measure p1 p2 y_far y_usable n_nodes n_links n_low n_high n_length = some (z_y_far, z_y_usable)) : CtV l D cI cZ cN aK aV yX4_measure (k_W yX4_measure cX4_measure 6 none) { frames := 2, cells := 0, slots := 0, locals := 45 } [.ref qy, .int p1, .int p2] [(qy, .inr (4, [.ref qn, .ref qy_far, .int y_usable])), (qy_far, .inl (cI, 9, .inl y_far)), (qn, .inr (1, [.int n_nodes, .int n_links, .int n_room, .int n_alive, .int n_inMap, .ref qn_low, .ref qn_high, .ref qn_length])), (qn_low, .inl (cI, 18, .inl n_low)), (qn_high, .inl (cI, 18, .inl n_high)), (qn_length, .inl (cI, 18, .inl n_length))] [(qy, .inr (4, [.ref qn, .ref qy_far, .int z_y_usable])), (qy_far, .inl (cI, 9, .inl z_y_far)), (qn, .inr (1, [.int n_nodes, .int n_links, .int n_room, .int n_alive, .int n_inMap, .ref qn_low, .ref qn_high, .ref qn_length])), (qn_low, .inl (cI, 18, .inl n_low)), (qn_high, .inl (cI, 18, .inl n_high)), (qn_length, .inl (cI, 18, .inl n_length))] := by
  refine k_startV (by decide) (Nat.le_of_ble_eq_true rfl) ?_
  intro p e s m below meth c A ls hx hb hr hml hown hts hlocks hT hZ hA hP hD hS hl
  have hK := hT.1
  have hu : ∀ w ∈ k_U, w.before ([.ref qy, .int p1, .int p2] : List Value).toArray s = true := fun w h => hts w (List.mem_cons_of_mem _ h)
  have hown : s.vm.findClass RX4 = some m.cls := hown
  have hl : lv_has ls 6 [(0, .ref qy), (1, .int p1), (2, .int p2)] := hl
  unfold f_X4_measure at h
  have w26 : ∀ (n26 : Nat) (x3 : Int32) (x4 : Int32) (y_far : (Nat → Int32)) (y_usable : Int32) (n_nodes : Int32) (n_links : Int32) (n_low : (Nat → Int32)) (n_high : (Nat → Int32)) (n_length : (Nat → Int32)) (H : Heap) (locs : List Loc) (ls : Array Slot), va_P D vwCl [(qy, .inr (4, [.ref qn, .ref qy_far, .int y_usable])), (qy_far, .inl (cI, 9, .inl y_far)), (qn, .inr (1, [.int n_nodes, .int n_links, .int n_room, .int n_alive, .int n_inMap, .ref qn_low, .ref qn_high, .ref qn_length])), (qn_low, .inl (cI, 18, .inl n_low)), (qn_high, .inl (cI, 18, .inl n_high)), (qn_length, .inl (cI, 18, .inl n_length))] H → va_D A [(qy, .inr (4, [.ref qn, .ref qy_far, .int y_usable])), (qy_far, .inl (cI, 9, .inl y_far)), (qn, .inr (1, [.int n_nodes, .int n_links, .int n_room, .int n_alive, .int n_inMap, .ref qn_low, .ref qn_high, .ref qn_length])), (qn_low, .inl (cI, 18, .inl n_low)), (qn_high, .inl (cI, 18, .inl n_high)), (qn_length, .inl (cI, 18, .inl n_length))] → va_S A s.heap H locs → lv_has ls 6 [(0, .ref qy), (3, .int x3), (4, .int x4)] → f_X4_measure_b26 n26 x3 x4 y_far y_usable n_nodes n_links n_low n_high n_length = some (z_y_far, z_y_usable) → W p l e { frames := 2, cells := 0, slots := 0, locals := 45 } s m ([.ref qy, .int p1, .int p2] : List Value).toArray below meth c H locs 0 0 (MQ below (k_QV D [(qy, .inr (4, [.ref qn, .ref qy_far, .int z_y_usable])), (qy_far, .inl (cI, 9, .inl z_y_far)), (qn, .inr (1, [.int n_nodes, .int n_links, .int n_room, .int n_alive, .int n_inMap, .ref qn_low, .ref qn_high, .ref qn_length])), (qn_low, .inl (cI, 18, .inl n_low)), (qn_high, .inl (cI, 18, .inl n_high)), (qn_length, .inl (cI, 18, .inl n_length))] A) ([.ref qy, .int p1, .int p2] : List Value).toArray s 0 0 A) (F0 m 26 ls []) := by
    intro n26
    induction n26 with
    | zero =>
      intro x3 x4 y_far y_usable n_nodes n_links n_low n_high n_length H locs ls hP hD hS hl h
      rw [f_X4_measure_b26] at h
      cases h
    | succ n26 ih26 =>
      intro x3 x4 y_far y_usable n_nodes n_links n_low n_high n_length H locs ls hP hD hS hl h
      rw [f_X4_measure_b26] at h
      have w47 : ∀ (n47 : Nat) (x3 : Int32) (x4 : Int32) (x5 : Int32) (y_far : (Nat → Int32)) (y_usable : Int32) (n_nodes : Int32) (n_links : Int32) (n_low : (Nat → Int32)) (n_high : (Nat → Int32)) (n_length : (Nat → Int32)) (H : Heap) (locs : List Loc) (ls : Array Slot), va_P D vwCl [(qy, .inr (4, [.ref qn, .ref qy_far, .int y_usable])), (qy_far, .inl (cI, 9, .inl y_far)), (qn, .inr (1, [.int n_nodes, .int n_links, .int n_room, .int n_alive, .int n_inMap, .ref qn_low, .ref qn_high, .ref qn_length])), (qn_low, .inl (cI, 18, .inl n_low)), (qn_high, .inl (cI, 18, .inl n_high)), (qn_length, .inl (cI, 18, .inl n_length))] H → va_D A [(qy, .inr (4, [.ref qn, .ref qy_far, .int y_usable])), (qy_far, .inl (cI, 9, .inl y_far)), (qn, .inr (1, [.int n_nodes, .int n_links, .int n_room, .int n_alive, .int n_inMap, .ref qn_low, .ref qn_high, .ref qn_length])), (qn_low, .inl (cI, 18, .inl n_low)), (qn_high, .inl (cI, 18, .inl n_high)), (qn_length, .inl (cI, 18, .inl n_length))] → va_S A s.heap H locs → lv_has ls 6 [(0, .ref qy), (3, .int x3), (4, .int x4), (5, .int x5)] → f_X4_measure_b47 (f_X4_measure_b26 n26) n47 x3 x4 x5 y_far y_usable n_nodes n_links n_low n_high n_length = some (z_y_far, z_y_usable) → W p l e { frames := 2, cells := 0, slots := 0, locals := 45 } s m ([.ref qy, .int p1, .int p2] : List Value).toArray below meth c H locs 0 0 (MQ below (k_QV D [(qy, .inr (4, [.ref qn, .ref qy_far, .int z_y_usable])), (qy_far, .inl (cI, 9, .inl z_y_far)), (qn, .inr (1, [.int n_nodes, .int n_links, .int n_room, .int n_alive, .int n_inMap, .ref qn_low, .ref qn_high, .ref qn_length])), (qn_low, .inl (cI, 18, .inl n_low)), (qn_high, .inl (cI, 18, .inl n_high)), (qn_length, .inl (cI, 18, .inl n_length))] A) ([.ref qy, .int p1, .int p2] : List Value).toArray s 0 0 A) (F0 m 47 ls []) := by
        intro n47
        induction n47 with
        | zero =>
          intro x3 x4 x5 y_far y_usable n_nodes n_links n_low n_high n_length H locs ls hP hD hS hl h
          rw [f_X4_measure_b47] at h
          cases h
        | succ n47 ih47 =>
          intro x3 x4 x5 y_far y_usable n_nodes n_links n_low n_high n_length H locs ls hP hD hS hl h
          rw [f_X4_measure_b47] at h
          refine lv_iload hx hb dX4_measure_47 (lv_at hl 3 rfl) ?_
          refine lv_aload_n hx hb dX4_measure_49 rfl (lv_at hl 0 rfl) ?_
          refine va_get (D := D) (ci := 4) (v := .ref qn) (C := RX4) (T := TX4) (N := 3) hx hb hu k_iX4 hown hK hP 0 rfl rfl 0 (by decide) (hu _ u_127) (fun _ h9 => h9) rfl dX4_measure_50 ?_
          refine va_get (D := D) (ci := 1) (v := .int n_links) (C := RX1) (T := TX1) (N := 8) hx hb hu k_iX1 hown hK hP 2 rfl rfl 1 (by decide) (hu _ u_79) (fun _ h9 => h9) rfl dX4_measure_53 ?_
          refine lv_icmp_ge (tgt := 89) hx hb dX4_measure_56 (by decide) (fun cc_6 => ?_) (fun cc_6 => ?_)
          · have h := (if_pos cc_6).symm.trans h
            refine lv_iinc (v := (x4 + (1 : Int32))) (lv' := [(4, .int (x4 + (1 : Int32))), (0, .ref qy), (3, .int x3), (5, .int x5)]) hx hb dX4_measure_89 hl (k := 2) rfl rfl (by decide) rfl (fun ls hl => ?_)
            refine lv_goto (tgt := 26) hx hb dX4_measure_92 (by decide) ?_
            exact ih26 x3 (x4 + (1 : Int32)) y_far y_usable n_nodes n_links n_low n_high n_length _ _ _ hP hD hS (lv_sub hl [1, 2, 0] rfl) h
          · have h := (if_neg cc_6).symm.trans h
            refine lv_aload_n hx hb dX4_measure_59 rfl (lv_at hl 0 rfl) ?_
            refine va_get (D := D) (ci := 4) (v := .int y_usable) (C := RX4) (T := TX4) (N := 3) hx hb hu k_iX4 hown hK hP 0 rfl rfl 2 (by decide) (hu _ u_129) (fun _ h9 => h9) rfl dX4_measure_60 ?_
            refine lv_iload hx hb dX4_measure_63 (lv_at hl 3 rfl) ?_
            refine k_call0N (As := [.int y_usable, .int x5]) (rest := []) ⟨hx, hb, hml, hown, hts⟩ hT hZ hA hP hD hS (c_X5_bit l D cI cZ cN aK aV y_usable x5 _ rfl) ⟨va_cnB 2 hts (k_good u_393) rfl rfl rfl hT.2.2.2.2.2.2.1 (hu _ u_45) (by decide +kernel) ⟨Nat.le_of_ble_eq_true rfl, Nat.le_of_ble_eq_true rfl⟩, hu _ u_392, trivial⟩ rfl hl.1 rfl (Nat.le_of_ble_eq_true rfl) dX4_measure_65 (fun H locs hP hD hS => ?_)
            refine lv_iconst (v := (1 : Int32)) hx hb dX4_measure_68 (by decide) ?_
            refine lv_icmp_ne (tgt := 83) hx hb dX4_measure_69 (by decide) (fun cc_7 => ?_) (fun cc_7 => ?_)
            · have h := (if_neg cc_7).symm.trans h
              refine lv_iinc (v := (x5 + (1 : Int32))) (lv' := [(5, .int (x5 + (1 : Int32))), (0, .ref qy), (3, .int x3), (4, .int x4)]) hx hb dX4_measure_83 hl (k := 3) rfl rfl (by decide) rfl (fun ls hl => ?_)
              refine lv_goto (tgt := 47) hx hb dX4_measure_86 (by decide) ?_
              exact ih47 x3 x4 (x5 + (1 : Int32)) y_far y_usable n_nodes n_links n_low n_high n_length _ _ _ hP hD hS (lv_sub hl [1, 2, 3, 0] rfl) h
            · have h := (if_pos cc_7).symm.trans h
              refine lv_aload_n hx hb dX4_measure_72 rfl (lv_at hl 0 rfl) ?_
              refine lv_iload hx hb dX4_measure_73 (lv_at hl 3 rfl) ?_
              obtain ⟨⟨r_8, o_9⟩, hc_10, h⟩ := ob_bind h
              dsimp only at h
              refine k_callVI (qb := 0) [0, 1, 2, 3, 4, 5] [1] [1] [(qy_far, .inl (cI, 9, .inl o_9))] (As := [.int x5]) (rest := []) ⟨hx, hb, hml, hown, hts⟩ hT hZ hA hP hD hS (c_X4_bringNearer l D cI cZ cN aK aV qy qy_far qn qn_low qn_high qn_length y_far y_usable n_nodes n_links n_room n_alive n_inMap n_low n_high n_length x5 r_8 o_9 hc_10) ⟨callB_of 1 hts (k_good u_469) rfl rfl rfl (hu _ u_47) (hu _ u_466) (by decide +kernel) ⟨Nat.le_of_ble_eq_true rfl, Nat.le_of_ble_eq_true rfl⟩, hu _ u_468, hu _ u_2⟩ rfl rfl rfl (by decide) (by decide) (by decide) rfl rfl rfl rfl hl.1 rfl (Nat.le_of_ble_eq_true rfl) dX4_measure_75 (fun H locs hP hD hS => ?_)
              have hP : va_P D vwCl [(qy, .inr (4, [.ref qn, .ref qy_far, .int y_usable])), (qy_far, .inl (cI, 9, .inl o_9)), (qn, .inr (1, [.int n_nodes, .int n_links, .int n_room, .int n_alive, .int n_inMap, .ref qn_low, .ref qn_high, .ref qn_length])), (qn_low, .inl (cI, 18, .inl n_low)), (qn_high, .inl (cI, 18, .inl n_high)), (qn_length, .inl (cI, 18, .inl n_length))] H := hP
              have hD : va_D A [(qy, .inr (4, [.ref qn, .ref qy_far, .int y_usable])), (qy_far, .inl (cI, 9, .inl o_9)), (qn, .inr (1, [.int n_nodes, .int n_links, .int n_room, .int n_alive, .int n_inMap, .ref qn_low, .ref qn_high, .ref qn_length])), (qn_low, .inl (cI, 18, .inl n_low)), (qn_high, .inl (cI, 18, .inl n_high)), (qn_length, .inl (cI, 18, .inl n_length))] := hD
              refine lv_if_eq (tgt := 83) hx hb dX4_measure_78 (by decide) (fun cc_11 => ?_) (fun cc_11 => ?_)
              · have h := (if_pos cc_11).symm.trans h
                refine lv_iinc (v := (x5 + (1 : Int32))) (lv' := [(5, .int (x5 + (1 : Int32))), (0, .ref qy), (3, .int x3), (4, .int x4)]) hx hb dX4_measure_83 hl (k := 3) rfl rfl (by decide) rfl (fun ls hl => ?_)
                refine lv_goto (tgt := 47) hx hb dX4_measure_86 (by decide) ?_
                exact ih47 x3 x4 (x5 + (1 : Int32)) o_9 y_usable n_nodes n_links n_low n_high n_length _ _ _ hP hD hS (lv_sub hl [1, 2, 3, 0] rfl) h
              · have h := (if_neg cc_11).symm.trans h
                refine lv_iconst (v := (1 : Int32)) hx hb dX4_measure_81 (by decide) ?_
                refine lv_istore_n (lv' := [(3, .int (1 : Int32)), (0, .ref qy), (4, .int x4), (5, .int x5)]) hx hb dX4_measure_82 rfl hl (by decide) rfl (fun ls hl => ?_)
                refine lv_iinc (v := (x5 + (1 : Int32))) (lv' := [(5, .int (x5 + (1 : Int32))), (3, .int (1 : Int32)), (0, .ref qy), (4, .int x4)]) hx hb dX4_measure_83 hl (k := 3) rfl rfl (by decide) rfl (fun ls hl => ?_)
                refine lv_goto (tgt := 47) hx hb dX4_measure_86 (by decide) ?_
                exact ih47 (1 : Int32) x4 (x5 + (1 : Int32)) o_9 y_usable n_nodes n_links n_low n_high n_length _ _ _ hP hD hS (lv_sub hl [2, 1, 3, 0] rfl) h
      refine lv_iload hx hb dX4_measure_26 (lv_at hl 2 rfl) ?_
      refine lv_aload_n hx hb dX4_measure_28 rfl (lv_at hl 0 rfl) ?_
      refine va_get (D := D) (ci := 4) (v := .ref qn) (C := RX4) (T := TX4) (N := 3) hx hb hu k_iX4 hown hK hP 0 rfl rfl 0 (by decide) (hu _ u_127) (fun _ h9 => h9) rfl dX4_measure_29 ?_
      refine va_get (D := D) (ci := 1) (v := .int n_nodes) (C := RX1) (T := TX1) (N := 8) hx hb hu k_iX1 hown hK hP 2 rfl rfl 0 (by decide) (hu _ u_76) (fun _ h9 => h9) rfl dX4_measure_32 ?_
      refine lv_icmp_ge (tgt := 95) hx hb dX4_measure_35 (by decide) (fun cc_4 => ?_) (fun cc_4 => ?_)
      · have h := (if_pos cc_4).symm.trans h
        have hq := Option.some.inj h
        clear h
        obtain ⟨e0, hq0⟩ := Prod.mk.inj hq
        clear hq
        subst e0
        subst hq0
        exact k_retV hx hb hr hlocks hP hD hS dX4_measure_95
      · have h := (if_neg cc_4).symm.trans h
        refine lv_iload_n hx hb dX4_measure_38 rfl (lv_at hl 1 rfl) ?_
        refine lv_if_eq (tgt := 95) hx hb dX4_measure_39 (by decide) (fun cc_5 => ?_) (fun cc_5 => ?_)
        · have h := (if_pos cc_5).symm.trans h
          have hq := Option.some.inj h
          clear h
          obtain ⟨e0, hq0⟩ := Prod.mk.inj hq
          clear hq
          subst e0
          subst hq0
          exact k_retV hx hb hr hlocks hP hD hS dX4_measure_95
        · have h := (if_neg cc_5).symm.trans h
          refine lv_iconst (v := (0 : Int32)) hx hb dX4_measure_42 (by decide) ?_
          refine lv_istore_n (lv' := [(3, .int (0 : Int32)), (0, .ref qy), (4, .int x4)]) hx hb dX4_measure_43 rfl hl (by decide) rfl (fun ls hl => ?_)
          refine lv_iconst (v := (0 : Int32)) hx hb dX4_measure_44 (by decide) ?_
          refine lv_istore (lv' := [(5, .int (0 : Int32)), (3, .int (0 : Int32)), (0, .ref qy), (4, .int x4)]) hx hb dX4_measure_45 hl (by decide) rfl (fun ls hl => ?_)
          exact w47 1000 (0 : Int32) x4 (0 : Int32) y_far y_usable n_nodes n_links n_low n_high n_length _ _ _ hP hD hS (lv_sub hl [2, 1, 3, 0] rfl) h
  refine lv_aload_n hx hb dX4_measure_0 rfl (lv_at hl 0 rfl) ?_
  refine lv_iload_n hx hb dX4_measure_1 rfl (lv_at hl 1 rfl) ?_
  refine va_put (D := D) (ci := 4) (v := .int p1) (ty := .int) (C := RX4) (T := TX4) (N := 3) hx hb hu k_iX4 tyX4 tyX4_ok nmX4 hown hK hP hD hS 0 rfl rfl 2 (by decide) (hu _ u_129) (fun _ h9 => h9) rfl (by decide +kernel) rfl rfl (Nat.le_of_ble_eq_true rfl) dX4_measure_2 (fun H locs hP hD hS => ?_)
  have hP : va_P D vwCl [(qy, .inr (4, [.ref qn, .ref qy_far, .int p1])), (qy_far, .inl (cI, 9, .inl y_far)), (qn, .inr (1, [.int n_nodes, .int n_links, .int n_room, .int n_alive, .int n_inMap, .ref qn_low, .ref qn_high, .ref qn_length])), (qn_low, .inl (cI, 18, .inl n_low)), (qn_high, .inl (cI, 18, .inl n_high)), (qn_length, .inl (cI, 18, .inl n_length))] H := hP
  have hD : va_D A [(qy, .inr (4, [.ref qn, .ref qy_far, .int p1])), (qy_far, .inl (cI, 9, .inl y_far)), (qn, .inr (1, [.int n_nodes, .int n_links, .int n_room, .int n_alive, .int n_inMap, .ref qn_low, .ref qn_high, .ref qn_length])), (qn_low, .inl (cI, 18, .inl n_low)), (qn_high, .inl (cI, 18, .inl n_high)), (qn_length, .inl (cI, 18, .inl n_length))] := hD
  refine lv_aload_n hx hb dX4_measure_5 rfl (lv_at hl 0 rfl) ?_
  refine va_get (D := D) (ci := 4) (v := .ref qy_far) (C := RX4) (T := TX4) (N := 3) hx hb hu k_iX4 hown hK hP 0 rfl rfl 1 (by decide) (hu _ u_128) (fun _ h9 => h9) rfl dX4_measure_6 ?_
  refine lv_ldc (v := (1048576 : Int32)) hx hb hown (hu _ u_461) dX4_measure_9 ?_
  obtain ⟨o_1, hc_2, h⟩ := ob_bind h
  refine k_callSV [1] [0] [1] [(qy_far, .inl (cI, 9, .inl o_1))] (As := [.ref qy_far, .int (1048576 : Int32)]) (rest := []) ⟨hx, hb, hml, hown, hts⟩ hT hZ hA hP hD hS (c_J7_fill_53178 l D cI cZ cN aK aV qy_far y_far (1048576 : Int32) o_1 hc_2) ⟨callB_of 2 hts (k_good u_464) rfl rfl rfl (hu _ u_54) (hu _ u_462) (by decide +kernel) ⟨Nat.le_of_ble_eq_true rfl, Nat.le_of_ble_eq_true rfl⟩, hu _ u_463⟩ rfl (by decide) (by decide) (by decide) rfl rfl rfl rfl hl.1 rfl (Nat.le_of_ble_eq_true rfl) dX4_measure_11 (fun H locs hP hD hS => ?_)
  have hP : va_P D vwCl [(qy, .inr (4, [.ref qn, .ref qy_far, .int p1])), (qy_far, .inl (cI, 9, .inl o_1)), (qn, .inr (1, [.int n_nodes, .int n_links, .int n_room, .int n_alive, .int n_inMap, .ref qn_low, .ref qn_high, .ref qn_length])), (qn_low, .inl (cI, 18, .inl n_low)), (qn_high, .inl (cI, 18, .inl n_high)), (qn_length, .inl (cI, 18, .inl n_length))] H := hP
  have hD : va_D A [(qy, .inr (4, [.ref qn, .ref qy_far, .int p1])), (qy_far, .inl (cI, 9, .inl o_1)), (qn, .inr (1, [.int n_nodes, .int n_links, .int n_room, .int n_alive, .int n_inMap, .ref qn_low, .ref qn_high, .ref qn_length])), (qn_low, .inl (cI, 18, .inl n_low)), (qn_high, .inl (cI, 18, .inl n_high)), (qn_length, .inl (cI, 18, .inl n_length))] := hD
  refine lv_aload_n hx hb dX4_measure_14 rfl (lv_at hl 0 rfl) ?_
  refine va_get (D := D) (ci := 4) (v := .ref qy_far) (C := RX4) (T := TX4) (N := 3) hx hb hu k_iX4 hown hK hP 0 rfl rfl 1 (by decide) (hu _ u_128) (fun _ h9 => h9) rfl dX4_measure_15 ?_
  refine lv_iload_n hx hb dX4_measure_18 rfl (lv_at hl 2 rfl) ?_
  refine lv_iconst (v := (0 : Int32)) hx hb dX4_measure_19 (by decide) ?_
  obtain ⟨hin_3, h⟩ := ob_if h
  have hin_3 := inb_in hin_3
  refine va_iast (D := D) hx hb hK hP hD hS 1 0 rfl rfl hin_3 dX4_measure_20 (fun H locs hP hD hS => ?_)
  have hP : va_P D vwCl [(qy, .inr (4, [.ref qn, .ref qy_far, .int p1])), (qy_far, .inl (cI, 9, .inl (upd o_1 (Int32.toNatClampNeg p2) (0 : Int32)))), (qn, .inr (1, [.int n_nodes, .int n_links, .int n_room, .int n_alive, .int n_inMap, .ref qn_low, .ref qn_high, .ref qn_length])), (qn_low, .inl (cI, 18, .inl n_low)), (qn_high, .inl (cI, 18, .inl n_high)), (qn_length, .inl (cI, 18, .inl n_length))] H := hP
  have hD : va_D A [(qy, .inr (4, [.ref qn, .ref qy_far, .int p1])), (qy_far, .inl (cI, 9, .inl (upd o_1 (Int32.toNatClampNeg p2) (0 : Int32)))), (qn, .inr (1, [.int n_nodes, .int n_links, .int n_room, .int n_alive, .int n_inMap, .ref qn_low, .ref qn_high, .ref qn_length])), (qn_low, .inl (cI, 18, .inl n_low)), (qn_high, .inl (cI, 18, .inl n_high)), (qn_length, .inl (cI, 18, .inl n_length))] := hD
  refine lv_iconst (v := (1 : Int32)) hx hb dX4_measure_21 (by decide) ?_
  refine lv_istore_n (lv' := [(3, .int (1 : Int32)), (0, .ref qy), (1, .int p1), (2, .int p2)]) hx hb dX4_measure_22 rfl hl (by decide) rfl (fun ls hl => ?_)
  refine lv_iconst (v := (0 : Int32)) hx hb dX4_measure_23 (by decide) ?_
  refine lv_istore (lv' := [(4, .int (0 : Int32)), (3, .int (1 : Int32)), (0, .ref qy), (1, .int p1), (2, .int p2)]) hx hb dX4_measure_24 hl (by decide) rfl (fun ls hl => ?_)
  exact w26 1000 (1 : Int32) (0 : Int32) (upd o_1 (Int32.toNatClampNeg p2) (0 : Int32)) p1 n_nodes n_links n_low n_high n_length _ _ _ hP hD hS (lv_sub hl [2, 1, 0] rfl) h
def f_X4_leadsFrom (p1 : Int32) (y_far : (Nat → Int32)) : Option (Int32) :=
  if inb p1 9 = true then
  if (1048576 : Int32) ≤ (y_far (Int32.toNatClampNeg p1)) then
    some ((0 : Int32))
  else
    some ((1 : Int32))
  else none
set_option maxHeartbeats 4000000 in
set_option maxRecDepth 100000 in
theorem c_X4_leadsFrom (l : Launch) (D : va_G) (cI cZ cN : ClassId) (aK aV : Nat → Nat)  (qy : Nat) (qy_far : Nat) (qn : Nat) (y_far : (Nat → Int32)) (y_usable : Int32) (p1 : Int32) (r : Int32) (h : f_X4_leadsFrom p1 y_far = some r) : CtI l D cI cZ cN aK aV yX4_leadsFrom (k_W yX4_leadsFrom cX4_leadsFrom 2 (some .boolean)) { frames := 0, cells := 0, slots := 0, locals := 0 } [.ref qy, .int p1] [(qy, .inr (4, [.ref qn, .ref qy_far, .int y_usable])), (qy_far, .inl (cI, 9, .inl y_far))] r [(qy, .inr (4, [.ref qn, .ref qy_far, .int y_usable])), (qy_far, .inl (cI, 9, .inl y_far))] := by
  refine k_startI (by decide) (Nat.le_of_ble_eq_true rfl) ?_
  intro p e s m below meth c A ls hx hb hr hml hown hts hlocks hT hZ hA hP hD hS hl
  have hK := hT.1
  have hu : ∀ w ∈ k_U, w.before ([.ref qy, .int p1] : List Value).toArray s = true := fun w h => hts w (List.mem_cons_of_mem _ h)
  have hown : s.vm.findClass RX4 = some m.cls := hown
  have hl : lv_has ls 2 [(0, .ref qy), (1, .int p1)] := hl
  unfold f_X4_leadsFrom at h
  refine lv_aload_n hx hb dX4_leadsFrom_0 rfl (lv_at hl 0 rfl) ?_
  refine va_get (D := D) (ci := 4) (v := .ref qy_far) (C := RX4) (T := TX4) (N := 3) hx hb hu k_iX4 hown hK hP 0 rfl rfl 1 (by decide) (hu _ u_128) (fun _ h9 => h9) rfl dX4_leadsFrom_1 ?_
  refine lv_iload_n hx hb dX4_leadsFrom_4 rfl (lv_at hl 1 rfl) ?_
  obtain ⟨hin_1, h⟩ := ob_if h
  have hin_1 := inb_in hin_1
  refine va_iald (D := D) hx hb hK hP 1 0 rfl rfl hin_1 dX4_leadsFrom_5 ?_
  refine lv_ldc (v := (1048576 : Int32)) hx hb hown (hu _ u_461) dX4_leadsFrom_6 ?_
  refine lv_icmp_ge (tgt := 15) hx hb dX4_leadsFrom_8 (by decide) (fun cc_2 => ?_) (fun cc_2 => ?_)
  · have h := (if_pos cc_2).symm.trans h
    refine lv_iconst (v := (0 : Int32)) hx hb dX4_leadsFrom_15 (by decide) ?_
    have hq := Option.some.inj h
    clear h
    subst hq
    exact k_retZ hx hb hr hlocks (Or.inl rfl) hP hD hS dX4_leadsFrom_16
  · have h := (if_neg cc_2).symm.trans h
    refine lv_iconst (v := (1 : Int32)) hx hb dX4_leadsFrom_11 (by decide) ?_
    refine lv_goto (tgt := 16) hx hb dX4_leadsFrom_12 (by decide) ?_
    have hq := Option.some.inj h
    clear h
    subst hq
    exact k_retZ hx hb hr hlocks (Or.inr rfl) hP hD hS dX4_leadsFrom_16
def f_X4_lengthFrom (p1 : Int32) (y_far : (Nat → Int32)) : Option (Int32) :=
  if inb p1 9 = true then
  some (((y_far (Int32.toNatClampNeg p1)) >>> ((4 : Int32) &&& (31 : Int32))))
  else none
set_option maxHeartbeats 4000000 in
set_option maxRecDepth 100000 in
theorem c_X4_lengthFrom (l : Launch) (D : va_G) (cI cZ cN : ClassId) (aK aV : Nat → Nat)  (qy : Nat) (qy_far : Nat) (qn : Nat) (y_far : (Nat → Int32)) (y_usable : Int32) (p1 : Int32) (r : Int32) (h : f_X4_lengthFrom p1 y_far = some r) : CtI l D cI cZ cN aK aV yX4_lengthFrom (k_W yX4_lengthFrom cX4_lengthFrom 2 (some .int)) { frames := 0, cells := 0, slots := 0, locals := 0 } [.ref qy, .int p1] [(qy, .inr (4, [.ref qn, .ref qy_far, .int y_usable])), (qy_far, .inl (cI, 9, .inl y_far))] r [(qy, .inr (4, [.ref qn, .ref qy_far, .int y_usable])), (qy_far, .inl (cI, 9, .inl y_far))] := by
  refine k_startI (by decide) (Nat.le_of_ble_eq_true rfl) ?_
  intro p e s m below meth c A ls hx hb hr hml hown hts hlocks hT hZ hA hP hD hS hl
  have hK := hT.1
  have hu : ∀ w ∈ k_U, w.before ([.ref qy, .int p1] : List Value).toArray s = true := fun w h => hts w (List.mem_cons_of_mem _ h)
  have hown : s.vm.findClass RX4 = some m.cls := hown
  have hl : lv_has ls 2 [(0, .ref qy), (1, .int p1)] := hl
  unfold f_X4_lengthFrom at h
  refine lv_aload_n hx hb dX4_lengthFrom_0 rfl (lv_at hl 0 rfl) ?_
  refine va_get (D := D) (ci := 4) (v := .ref qy_far) (C := RX4) (T := TX4) (N := 3) hx hb hu k_iX4 hown hK hP 0 rfl rfl 1 (by decide) (hu _ u_128) (fun _ h9 => h9) rfl dX4_lengthFrom_1 ?_
  refine lv_iload_n hx hb dX4_lengthFrom_4 rfl (lv_at hl 1 rfl) ?_
  obtain ⟨hin_1, h⟩ := ob_if h
  have hin_1 := inb_in hin_1
  refine va_iald (D := D) hx hb hK hP 1 0 rfl rfl hin_1 dX4_lengthFrom_5 ?_
  refine lv_iconst (v := (4 : Int32)) hx hb dX4_lengthFrom_6 (by decide) ?_
  refine lv_ishr hx hb dX4_lengthFrom_7 ?_
  have hq := Option.some.inj h
  clear h
  subst hq
  exact k_retI hx hb hr hlocks hP hD hS dX4_lengthFrom_8
def f_X4_linksFrom (p1 : Int32) (y_far : (Nat → Int32)) : Option (Int32) :=
  if inb p1 9 = true then
  some (((y_far (Int32.toNatClampNeg p1)) &&& (15 : Int32)))
  else none
set_option maxHeartbeats 4000000 in
set_option maxRecDepth 100000 in
theorem c_X4_linksFrom (l : Launch) (D : va_G) (cI cZ cN : ClassId) (aK aV : Nat → Nat)  (qy : Nat) (qy_far : Nat) (qn : Nat) (y_far : (Nat → Int32)) (y_usable : Int32) (p1 : Int32) (r : Int32) (h : f_X4_linksFrom p1 y_far = some r) : CtI l D cI cZ cN aK aV yX4_linksFrom (k_W yX4_linksFrom cX4_linksFrom 2 (some .int)) { frames := 0, cells := 0, slots := 0, locals := 0 } [.ref qy, .int p1] [(qy, .inr (4, [.ref qn, .ref qy_far, .int y_usable])), (qy_far, .inl (cI, 9, .inl y_far))] r [(qy, .inr (4, [.ref qn, .ref qy_far, .int y_usable])), (qy_far, .inl (cI, 9, .inl y_far))] := by
  refine k_startI (by decide) (Nat.le_of_ble_eq_true rfl) ?_
  intro p e s m below meth c A ls hx hb hr hml hown hts hlocks hT hZ hA hP hD hS hl
  have hK := hT.1
  have hu : ∀ w ∈ k_U, w.before ([.ref qy, .int p1] : List Value).toArray s = true := fun w h => hts w (List.mem_cons_of_mem _ h)
  have hown : s.vm.findClass RX4 = some m.cls := hown
  have hl : lv_has ls 2 [(0, .ref qy), (1, .int p1)] := hl
  unfold f_X4_linksFrom at h
  refine lv_aload_n hx hb dX4_linksFrom_0 rfl (lv_at hl 0 rfl) ?_
  refine va_get (D := D) (ci := 4) (v := .ref qy_far) (C := RX4) (T := TX4) (N := 3) hx hb hu k_iX4 hown hK hP 0 rfl rfl 1 (by decide) (hu _ u_128) (fun _ h9 => h9) rfl dX4_linksFrom_1 ?_
  refine lv_iload_n hx hb dX4_linksFrom_4 rfl (lv_at hl 1 rfl) ?_
  obtain ⟨hin_1, h⟩ := ob_if h
  have hin_1 := inb_in hin_1
  refine va_iald (D := D) hx hb hK hP 1 0 rfl rfl hin_1 dX4_linksFrom_5 ?_
  refine lv_bipush (v := (15 : Int32)) hx hb dX4_linksFrom_6 (by decide) ?_
  refine lv_iand hx hb dX4_linksFrom_8 ?_
  have hq := Option.some.inj h
  clear h
  subst hq
  exact k_retI hx hb hr hlocks hP hD hS dX4_linksFrom_9
def f_X4_firstLinkFrom_b47 (k8 : Int32 → Int32 → Int32 → Int32 → (Nat → Int32) → Int32 → Int32 → (Nat → Int32) → (Nat → Int32) → (Nat → Int32) → Option (Int32)) (x1 : Int32) (x2 : Int32) (x3 : Int32) (x4 : Int32) (s0 : Int32) (y_far : (Nat → Int32)) (y_usable : Int32) (n_links : Int32) (n_low : (Nat → Int32)) (n_high : (Nat → Int32)) (n_length : (Nat → Int32)) : Option (Int32) :=
  if s0 = (-1 : Int32) then
    k8 x1 x2 x3 (x4 + (1 : Int32)) y_far y_usable n_links n_low n_high n_length
  else
    if x3 ≤ s0 then
      k8 x1 x2 x3 (x4 + (1 : Int32)) y_far y_usable n_links n_low n_high n_length
    else
      if inb s0 9 = true then
      (f_X4_weight x4 n_length).bind fun r_8 =>
      if inb x1 9 = true then
      if ((y_far (Int32.toNatClampNeg s0)) + r_8) = (y_far (Int32.toNatClampNeg x1)) then
        k8 x1 x4 s0 (x4 + (1 : Int32)) y_far y_usable n_links n_low n_high n_length
      else
        k8 x1 x2 x3 (x4 + (1 : Int32)) y_far y_usable n_links n_low n_high n_length
      else none
      else none
def f_X4_firstLinkFrom_b8  : Nat → Int32 → Int32 → Int32 → Int32 → (Nat → Int32) → Int32 → Int32 → (Nat → Int32) → (Nat → Int32) → (Nat → Int32) → Option (Int32)
  | 0, _, _, _, _, _, _, _, _, _, _ => none
  | n + 1, x1, x2, x3, x4, y_far, y_usable, n_links, n_low, n_high, n_length =>
    if n_links ≤ x4 then
      some (x2)
    else
      if (f_X5_bit y_usable x4) = (1 : Int32) then
        (f_X1_otherEnd x4 x1 n_low n_high).bind fun r_3 =>
        f_X4_firstLinkFrom_b47 (f_X4_firstLinkFrom_b8 n) x1 x2 x3 x4 r_3 y_far y_usable n_links n_low n_high n_length
      else
        f_X4_firstLinkFrom_b47 (f_X4_firstLinkFrom_b8 n) x1 x2 x3 x4 (-1 : Int32) y_far y_usable n_links n_low n_high n_length
def f_X4_firstLinkFrom (p1 : Int32) (y_far : (Nat → Int32)) (y_usable : Int32) (n_links : Int32) (n_low : (Nat → Int32)) (n_high : (Nat → Int32)) (n_length : (Nat → Int32)) : Option (Int32) :=
  f_X4_firstLinkFrom_b8 1000 p1 (-1 : Int32) (9 : Int32) (0 : Int32) y_far y_usable n_links n_low n_high n_length
set_option maxHeartbeats 4000000 in
set_option maxRecDepth 100000 in
theorem c_X4_firstLinkFrom (l : Launch) (D : va_G) (cI cZ cN : ClassId) (aK aV : Nat → Nat)  (qy : Nat) (qy_far : Nat) (qn : Nat) (qn_low : Nat) (qn_high : Nat) (qn_length : Nat) (y_far : (Nat → Int32)) (y_usable : Int32) (n_nodes : Int32) (n_links : Int32) (n_room : Int32) (n_alive : Int32) (n_inMap : Int32) (n_low : (Nat → Int32)) (n_high : (Nat → Int32)) (n_length : (Nat → Int32)) (p1 : Int32) (r : Int32) (h : f_X4_firstLinkFrom p1 y_far y_usable n_links n_low n_high n_length = some r) : CtI l D cI cZ cN aK aV yX4_firstLinkFrom (k_W yX4_firstLinkFrom cX4_firstLinkFrom 6 (some .int)) { frames := 1, cells := 0, slots := 0, locals := 22 } [.ref qy, .int p1] [(qy, .inr (4, [.ref qn, .ref qy_far, .int y_usable])), (qy_far, .inl (cI, 9, .inl y_far)), (qn, .inr (1, [.int n_nodes, .int n_links, .int n_room, .int n_alive, .int n_inMap, .ref qn_low, .ref qn_high, .ref qn_length])), (qn_low, .inl (cI, 18, .inl n_low)), (qn_high, .inl (cI, 18, .inl n_high)), (qn_length, .inl (cI, 18, .inl n_length))] r [(qy, .inr (4, [.ref qn, .ref qy_far, .int y_usable])), (qy_far, .inl (cI, 9, .inl y_far)), (qn, .inr (1, [.int n_nodes, .int n_links, .int n_room, .int n_alive, .int n_inMap, .ref qn_low, .ref qn_high, .ref qn_length])), (qn_low, .inl (cI, 18, .inl n_low)), (qn_high, .inl (cI, 18, .inl n_high)), (qn_length, .inl (cI, 18, .inl n_length))] := by
  refine k_startI (by decide) (Nat.le_of_ble_eq_true rfl) ?_
  intro p e s m below meth c A ls hx hb hr hml hown hts hlocks hT hZ hA hP hD hS hl
  have hK := hT.1
  have hu : ∀ w ∈ k_U, w.before ([.ref qy, .int p1] : List Value).toArray s = true := fun w h => hts w (List.mem_cons_of_mem _ h)
  have hown : s.vm.findClass RX4 = some m.cls := hown
  have hl : lv_has ls 6 [(0, .ref qy), (1, .int p1)] := hl
  unfold f_X4_firstLinkFrom at h
  have w8 : ∀ (n8 : Nat) (x1 : Int32) (x2 : Int32) (x3 : Int32) (x4 : Int32) (y_far : (Nat → Int32)) (y_usable : Int32) (n_links : Int32) (n_low : (Nat → Int32)) (n_high : (Nat → Int32)) (n_length : (Nat → Int32)) (H : Heap) (locs : List Loc) (ls : Array Slot), va_P D vwCl [(qy, .inr (4, [.ref qn, .ref qy_far, .int y_usable])), (qy_far, .inl (cI, 9, .inl y_far)), (qn, .inr (1, [.int n_nodes, .int n_links, .int n_room, .int n_alive, .int n_inMap, .ref qn_low, .ref qn_high, .ref qn_length])), (qn_low, .inl (cI, 18, .inl n_low)), (qn_high, .inl (cI, 18, .inl n_high)), (qn_length, .inl (cI, 18, .inl n_length))] H → va_D A [(qy, .inr (4, [.ref qn, .ref qy_far, .int y_usable])), (qy_far, .inl (cI, 9, .inl y_far)), (qn, .inr (1, [.int n_nodes, .int n_links, .int n_room, .int n_alive, .int n_inMap, .ref qn_low, .ref qn_high, .ref qn_length])), (qn_low, .inl (cI, 18, .inl n_low)), (qn_high, .inl (cI, 18, .inl n_high)), (qn_length, .inl (cI, 18, .inl n_length))] → va_S A s.heap H locs → lv_has ls 6 [(0, .ref qy), (1, .int x1), (2, .int x2), (3, .int x3), (4, .int x4)] → f_X4_firstLinkFrom_b8 n8 x1 x2 x3 x4 y_far y_usable n_links n_low n_high n_length = some r → W p l e { frames := 1, cells := 0, slots := 0, locals := 22 } s m ([.ref qy, .int p1] : List Value).toArray below meth c H locs 0 0 (MQ below (k_QI D r [(qy, .inr (4, [.ref qn, .ref qy_far, .int y_usable])), (qy_far, .inl (cI, 9, .inl y_far)), (qn, .inr (1, [.int n_nodes, .int n_links, .int n_room, .int n_alive, .int n_inMap, .ref qn_low, .ref qn_high, .ref qn_length])), (qn_low, .inl (cI, 18, .inl n_low)), (qn_high, .inl (cI, 18, .inl n_high)), (qn_length, .inl (cI, 18, .inl n_length))] A) ([.ref qy, .int p1] : List Value).toArray s 0 0 A) (F0 m 8 ls []) := by
    intro n8
    induction n8 with
    | zero =>
      intro x1 x2 x3 x4 y_far y_usable n_links n_low n_high n_length H locs ls hP hD hS hl h
      rw [f_X4_firstLinkFrom_b8] at h
      cases h
    | succ n8 ih8 =>
      intro x1 x2 x3 x4 y_far y_usable n_links n_low n_high n_length H locs ls hP hD hS hl h
      rw [f_X4_firstLinkFrom_b8] at h
      have w47 : ∀  (x1 : Int32) (x2 : Int32) (x3 : Int32) (x4 : Int32) (s0 : Int32) (y_far : (Nat → Int32)) (y_usable : Int32) (n_links : Int32) (n_low : (Nat → Int32)) (n_high : (Nat → Int32)) (n_length : (Nat → Int32)) (H : Heap) (locs : List Loc) (ls : Array Slot), va_P D vwCl [(qy, .inr (4, [.ref qn, .ref qy_far, .int y_usable])), (qy_far, .inl (cI, 9, .inl y_far)), (qn, .inr (1, [.int n_nodes, .int n_links, .int n_room, .int n_alive, .int n_inMap, .ref qn_low, .ref qn_high, .ref qn_length])), (qn_low, .inl (cI, 18, .inl n_low)), (qn_high, .inl (cI, 18, .inl n_high)), (qn_length, .inl (cI, 18, .inl n_length))] H → va_D A [(qy, .inr (4, [.ref qn, .ref qy_far, .int y_usable])), (qy_far, .inl (cI, 9, .inl y_far)), (qn, .inr (1, [.int n_nodes, .int n_links, .int n_room, .int n_alive, .int n_inMap, .ref qn_low, .ref qn_high, .ref qn_length])), (qn_low, .inl (cI, 18, .inl n_low)), (qn_high, .inl (cI, 18, .inl n_high)), (qn_length, .inl (cI, 18, .inl n_length))] → va_S A s.heap H locs → lv_has ls 6 [(0, .ref qy), (1, .int x1), (2, .int x2), (3, .int x3), (4, .int x4)] → f_X4_firstLinkFrom_b47 (f_X4_firstLinkFrom_b8 n8) x1 x2 x3 x4 s0 y_far y_usable n_links n_low n_high n_length = some r → W p l e { frames := 1, cells := 0, slots := 0, locals := 22 } s m ([.ref qy, .int p1] : List Value).toArray below meth c H locs 0 0 (MQ below (k_QI D r [(qy, .inr (4, [.ref qn, .ref qy_far, .int y_usable])), (qy_far, .inl (cI, 9, .inl y_far)), (qn, .inr (1, [.int n_nodes, .int n_links, .int n_room, .int n_alive, .int n_inMap, .ref qn_low, .ref qn_high, .ref qn_length])), (qn_low, .inl (cI, 18, .inl n_low)), (qn_high, .inl (cI, 18, .inl n_high)), (qn_length, .inl (cI, 18, .inl n_length))] A) ([.ref qy, .int p1] : List Value).toArray s 0 0 A) (F0 m 47 ls [.int s0]) := by
        intro x1 x2 x3 x4 s0 y_far y_usable n_links n_low n_high n_length H locs ls hP hD hS hl h
        unfold f_X4_firstLinkFrom_b47 at h
        refine lv_istore (lv' := [(5, .int s0), (0, .ref qy), (1, .int x1), (2, .int x2), (3, .int x3), (4, .int x4)]) hx hb dX4_firstLinkFrom_47 hl (by decide) rfl (fun ls hl => ?_)
        refine lv_iload hx hb dX4_firstLinkFrom_49 (lv_at hl 0 rfl) ?_
        refine lv_iconst (v := (-1 : Int32)) hx hb dX4_firstLinkFrom_51 (by decide) ?_
        refine lv_icmp_eq (tgt := 90) hx hb dX4_firstLinkFrom_52 (by decide) (fun cc_5 => ?_) (fun cc_5 => ?_)
        · have h := (if_pos cc_5).symm.trans h
          refine lv_iinc (v := (x4 + (1 : Int32))) (lv' := [(4, .int (x4 + (1 : Int32))), (5, .int s0), (0, .ref qy), (1, .int x1), (2, .int x2), (3, .int x3)]) hx hb dX4_firstLinkFrom_90 hl (k := 5) rfl rfl (by decide) rfl (fun ls hl => ?_)
          refine lv_goto (tgt := 8) hx hb dX4_firstLinkFrom_93 (by decide) ?_
          exact ih8 x1 x2 x3 (x4 + (1 : Int32)) y_far y_usable n_links n_low n_high n_length _ _ _ hP hD hS (lv_sub hl [2, 3, 4, 5, 0] rfl) h
        · have h := (if_neg cc_5).symm.trans h
          refine lv_iload hx hb dX4_firstLinkFrom_55 (lv_at hl 0 rfl) ?_
          refine lv_iload_n hx hb dX4_firstLinkFrom_57 rfl (lv_at hl 4 rfl) ?_
          refine lv_icmp_ge (tgt := 90) hx hb dX4_firstLinkFrom_58 (by decide) (fun cc_6 => ?_) (fun cc_6 => ?_)
          · have h := (if_pos cc_6).symm.trans h
            refine lv_iinc (v := (x4 + (1 : Int32))) (lv' := [(4, .int (x4 + (1 : Int32))), (5, .int s0), (0, .ref qy), (1, .int x1), (2, .int x2), (3, .int x3)]) hx hb dX4_firstLinkFrom_90 hl (k := 5) rfl rfl (by decide) rfl (fun ls hl => ?_)
            refine lv_goto (tgt := 8) hx hb dX4_firstLinkFrom_93 (by decide) ?_
            exact ih8 x1 x2 x3 (x4 + (1 : Int32)) y_far y_usable n_links n_low n_high n_length _ _ _ hP hD hS (lv_sub hl [2, 3, 4, 5, 0] rfl) h
          · have h := (if_neg cc_6).symm.trans h
            refine lv_aload_n hx hb dX4_firstLinkFrom_61 rfl (lv_at hl 1 rfl) ?_
            refine va_get (D := D) (ci := 4) (v := .ref qy_far) (C := RX4) (T := TX4) (N := 3) hx hb hu k_iX4 hown hK hP 0 rfl rfl 1 (by decide) (hu _ u_128) (fun _ h9 => h9) rfl dX4_firstLinkFrom_62 ?_
            refine lv_iload hx hb dX4_firstLinkFrom_65 (lv_at hl 0 rfl) ?_
            obtain ⟨hin_7, h⟩ := ob_if h
            have hin_7 := inb_in hin_7
            refine va_iald (D := D) hx hb hK hP 1 0 rfl rfl hin_7 dX4_firstLinkFrom_67 ?_
            refine lv_aload_n hx hb dX4_firstLinkFrom_68 rfl (lv_at hl 1 rfl) ?_
            refine lv_iload hx hb dX4_firstLinkFrom_69 (lv_at hl 5 rfl) ?_
            obtain ⟨r_8, hc_9, h⟩ := ob_bind h
            refine k_callVIr (qb := 0) [0, 2, 5] (As := [.int x4]) (rest := [.int (y_far (Int32.toNatClampNeg s0))]) ⟨hx, hb, hml, hown, hts⟩ hT hZ hA hP hD hS (c_X4_weight l D cI cZ cN aK aV qy qy_far qn qn_low qn_high qn_length y_usable n_nodes n_links n_room n_alive n_inMap n_length x4 r_8 hc_9) ⟨callB_of 1 hts (k_good u_473) rfl rfl rfl (hu _ u_47) (hu _ u_470) (by decide +kernel) ⟨Nat.le_of_ble_eq_true rfl, Nat.le_of_ble_eq_true rfl⟩, hu _ u_472, hu _ u_3⟩ rfl rfl rfl (by decide) rfl hl.1 rfl (Nat.le_of_ble_eq_true rfl) dX4_firstLinkFrom_71 (fun H locs hP hD hS => ?_)
            refine lv_iadd hx hb dX4_firstLinkFrom_74 ?_
            refine lv_aload_n hx hb dX4_firstLinkFrom_75 rfl (lv_at hl 1 rfl) ?_
            refine va_get (D := D) (ci := 4) (v := .ref qy_far) (C := RX4) (T := TX4) (N := 3) hx hb hu k_iX4 hown hK hP 0 rfl rfl 1 (by decide) (hu _ u_128) (fun _ h9 => h9) rfl dX4_firstLinkFrom_76 ?_
            refine lv_iload_n hx hb dX4_firstLinkFrom_79 rfl (lv_at hl 2 rfl) ?_
            obtain ⟨hin_10, h⟩ := ob_if h
            have hin_10 := inb_in hin_10
            refine va_iald (D := D) hx hb hK hP 1 0 rfl rfl hin_10 dX4_firstLinkFrom_80 ?_
            refine lv_icmp_ne (tgt := 90) hx hb dX4_firstLinkFrom_81 (by decide) (fun cc_11 => ?_) (fun cc_11 => ?_)
            · have h := (if_neg cc_11).symm.trans h
              refine lv_iinc (v := (x4 + (1 : Int32))) (lv' := [(4, .int (x4 + (1 : Int32))), (5, .int s0), (0, .ref qy), (1, .int x1), (2, .int x2), (3, .int x3)]) hx hb dX4_firstLinkFrom_90 hl (k := 5) rfl rfl (by decide) rfl (fun ls hl => ?_)
              refine lv_goto (tgt := 8) hx hb dX4_firstLinkFrom_93 (by decide) ?_
              exact ih8 x1 x2 x3 (x4 + (1 : Int32)) y_far y_usable n_links n_low n_high n_length _ _ _ hP hD hS (lv_sub hl [2, 3, 4, 5, 0] rfl) h
            · have h := (if_pos cc_11).symm.trans h
              refine lv_iload hx hb dX4_firstLinkFrom_84 (lv_at hl 0 rfl) ?_
              refine lv_istore_n (lv' := [(3, .int s0), (5, .int s0), (0, .ref qy), (1, .int x1), (2, .int x2), (4, .int x4)]) hx hb dX4_firstLinkFrom_86 rfl hl (by decide) rfl (fun ls hl => ?_)
              refine lv_iload hx hb dX4_firstLinkFrom_87 (lv_at hl 5 rfl) ?_
              refine lv_istore_n (lv' := [(2, .int x4), (3, .int s0), (5, .int s0), (0, .ref qy), (1, .int x1), (4, .int x4)]) hx hb dX4_firstLinkFrom_89 rfl hl (by decide) rfl (fun ls hl => ?_)
              refine lv_iinc (v := (x4 + (1 : Int32))) (lv' := [(4, .int (x4 + (1 : Int32))), (2, .int x4), (3, .int s0), (5, .int s0), (0, .ref qy), (1, .int x1)]) hx hb dX4_firstLinkFrom_90 hl (k := 5) rfl rfl (by decide) rfl (fun ls hl => ?_)
              refine lv_goto (tgt := 8) hx hb dX4_firstLinkFrom_93 (by decide) ?_
              exact ih8 x1 x4 s0 (x4 + (1 : Int32)) y_far y_usable n_links n_low n_high n_length _ _ _ hP hD hS (lv_sub hl [4, 5, 1, 2, 0] rfl) h
      refine lv_iload hx hb dX4_firstLinkFrom_8 (lv_at hl 4 rfl) ?_
      refine lv_aload_n hx hb dX4_firstLinkFrom_10 rfl (lv_at hl 0 rfl) ?_
      refine va_get (D := D) (ci := 4) (v := .ref qn) (C := RX4) (T := TX4) (N := 3) hx hb hu k_iX4 hown hK hP 0 rfl rfl 0 (by decide) (hu _ u_127) (fun _ h9 => h9) rfl dX4_firstLinkFrom_11 ?_
      refine va_get (D := D) (ci := 1) (v := .int n_links) (C := RX1) (T := TX1) (N := 8) hx hb hu k_iX1 hown hK hP 2 rfl rfl 1 (by decide) (hu _ u_79) (fun _ h9 => h9) rfl dX4_firstLinkFrom_14 ?_
      refine lv_icmp_ge (tgt := 96) hx hb dX4_firstLinkFrom_17 (by decide) (fun cc_1 => ?_) (fun cc_1 => ?_)
      · have h := (if_pos cc_1).symm.trans h
        refine lv_iload_n hx hb dX4_firstLinkFrom_96 rfl (lv_at hl 2 rfl) ?_
        have hq := Option.some.inj h
        clear h
        subst hq
        exact k_retI hx hb hr hlocks hP hD hS dX4_firstLinkFrom_97
      · have h := (if_neg cc_1).symm.trans h
        refine lv_aload_n hx hb dX4_firstLinkFrom_20 rfl (lv_at hl 0 rfl) ?_
        refine va_get (D := D) (ci := 4) (v := .int y_usable) (C := RX4) (T := TX4) (N := 3) hx hb hu k_iX4 hown hK hP 0 rfl rfl 2 (by decide) (hu _ u_129) (fun _ h9 => h9) rfl dX4_firstLinkFrom_21 ?_
        refine lv_iload hx hb dX4_firstLinkFrom_24 (lv_at hl 4 rfl) ?_
        refine k_call0N (As := [.int y_usable, .int x4]) (rest := []) ⟨hx, hb, hml, hown, hts⟩ hT hZ hA hP hD hS (c_X5_bit l D cI cZ cN aK aV y_usable x4 _ rfl) ⟨va_cnB 2 hts (k_good u_393) rfl rfl rfl hT.2.2.2.2.2.2.1 (hu _ u_45) (by decide +kernel) ⟨Nat.le_of_ble_eq_true rfl, Nat.le_of_ble_eq_true rfl⟩, hu _ u_392, trivial⟩ rfl hl.1 rfl (Nat.le_of_ble_eq_true rfl) dX4_firstLinkFrom_26 (fun H locs hP hD hS => ?_)
        refine lv_iconst (v := (1 : Int32)) hx hb dX4_firstLinkFrom_29 (by decide) ?_
        refine lv_icmp_ne (tgt := 46) hx hb dX4_firstLinkFrom_30 (by decide) (fun cc_2 => ?_) (fun cc_2 => ?_)
        · have h := (if_neg cc_2).symm.trans h
          refine lv_iconst (v := (-1 : Int32)) hx hb dX4_firstLinkFrom_46 (by decide) ?_
          exact w47 x1 x2 x3 x4 (-1 : Int32) y_far y_usable n_links n_low n_high n_length _ _ _ hP hD hS (lv_sub hl [0, 1, 2, 3, 4] rfl) h
        · have h := (if_pos cc_2).symm.trans h
          refine lv_aload_n hx hb dX4_firstLinkFrom_33 rfl (lv_at hl 0 rfl) ?_
          refine va_get (D := D) (ci := 4) (v := .ref qn) (C := RX4) (T := TX4) (N := 3) hx hb hu k_iX4 hown hK hP 0 rfl rfl 0 (by decide) (hu _ u_127) (fun _ h9 => h9) rfl dX4_firstLinkFrom_34 ?_
          refine lv_iload hx hb dX4_firstLinkFrom_37 (lv_at hl 4 rfl) ?_
          refine lv_iload_n hx hb dX4_firstLinkFrom_39 rfl (lv_at hl 1 rfl) ?_
          obtain ⟨r_3, hc_4, h⟩ := ob_bind h
          refine k_callVIr (qb := 0) [2, 3, 4] (As := [.int x4, .int x1]) (rest := []) ⟨hx, hb, hml, hown, hts⟩ hT hZ hA hP hD hS (c_X1_otherEnd l D cI cZ cN aK aV qn qn_low qn_high qn_length n_nodes n_links n_room n_alive n_inMap n_low n_high x4 x1 r_3 hc_4) ⟨callB_of 2 hts (k_good u_497) rfl rfl rfl (hu _ u_46) (hu _ u_494) (by decide +kernel) ⟨Nat.le_of_ble_eq_true rfl, Nat.le_of_ble_eq_true rfl⟩, hu _ u_495, hu _ u_496⟩ rfl rfl rfl (by decide) rfl hl.1 rfl (Nat.le_of_ble_eq_true rfl) dX4_firstLinkFrom_40 (fun H locs hP hD hS => ?_)
          refine lv_goto (tgt := 47) hx hb dX4_firstLinkFrom_43 (by decide) ?_
          exact w47 x1 x2 x3 x4 r_3 y_far y_usable n_links n_low n_high n_length _ _ _ hP hD hS (lv_sub hl [0, 1, 2, 3, 4] rfl) h
  refine lv_iconst (v := (-1 : Int32)) hx hb dX4_firstLinkFrom_0 (by decide) ?_
  refine lv_istore_n (lv' := [(2, .int (-1 : Int32)), (0, .ref qy), (1, .int p1)]) hx hb dX4_firstLinkFrom_1 rfl hl (by decide) rfl (fun ls hl => ?_)
  refine lv_bipush (v := (9 : Int32)) hx hb dX4_firstLinkFrom_2 (by decide) ?_
  refine lv_istore_n (lv' := [(3, .int (9 : Int32)), (2, .int (-1 : Int32)), (0, .ref qy), (1, .int p1)]) hx hb dX4_firstLinkFrom_4 rfl hl (by decide) rfl (fun ls hl => ?_)
  refine lv_iconst (v := (0 : Int32)) hx hb dX4_firstLinkFrom_5 (by decide) ?_
  refine lv_istore (lv' := [(4, .int (0 : Int32)), (3, .int (9 : Int32)), (2, .int (-1 : Int32)), (0, .ref qy), (1, .int p1)]) hx hb dX4_firstLinkFrom_6 hl (by decide) rfl (fun ls hl => ?_)
  exact w8 1000 p1 (-1 : Int32) (9 : Int32) (0 : Int32) y_far y_usable n_links n_low n_high n_length _ _ _ hP hD hS (lv_sub hl [3, 4, 2, 1, 0] rfl) h
def f_X4_nodeAfter_b5  : Nat → Int32 → Int32 → Int32 → (Nat → Int32) → Int32 → Int32 → (Nat → Int32) → (Nat → Int32) → (Nat → Int32) → Option (Int32)
  | 0, _, _, _, _, _, _, _, _, _ => none
  | n + 1, x2, x3, x4, y_far, y_usable, n_links, n_low, n_high, n_length =>
    if x2 ≤ x4 then
      some (x3)
    else
      if (9 : Int32) ≤ x4 then
        some (x3)
      else
        (f_X4_firstLinkFrom x3 y_far y_usable n_links n_low n_high n_length).bind fun r_3 =>
        if r_3 = (-1 : Int32) then
          some ((-9 : Int32))
        else
          (f_X1_otherEnd r_3 x3 n_low n_high).bind fun r_6 =>
          (f_X4_nodeAfter_b5 n) x2 r_6 (x4 + (1 : Int32)) y_far y_usable n_links n_low n_high n_length
def f_X4_nodeAfter (p1 : Int32) (p2 : Int32) (y_far : (Nat → Int32)) (y_usable : Int32) (n_links : Int32) (n_low : (Nat → Int32)) (n_high : (Nat → Int32)) (n_length : (Nat → Int32)) : Option (Int32) :=
  f_X4_nodeAfter_b5 1000 p2 p1 (0 : Int32) y_far y_usable n_links n_low n_high n_length
set_option maxHeartbeats 4000000 in
set_option maxRecDepth 100000 in
theorem c_X4_nodeAfter (l : Launch) (D : va_G) (cI cZ cN : ClassId) (aK aV : Nat → Nat)  (qy : Nat) (qy_far : Nat) (qn : Nat) (qn_low : Nat) (qn_high : Nat) (qn_length : Nat) (y_far : (Nat → Int32)) (y_usable : Int32) (n_nodes : Int32) (n_links : Int32) (n_room : Int32) (n_alive : Int32) (n_inMap : Int32) (n_low : (Nat → Int32)) (n_high : (Nat → Int32)) (n_length : (Nat → Int32)) (p1 p2 : Int32) (r : Int32) (h : f_X4_nodeAfter p1 p2 y_far y_usable n_links n_low n_high n_length = some r) : CtI l D cI cZ cN aK aV yX4_nodeAfter (k_W yX4_nodeAfter cX4_nodeAfter 6 (some .int)) { frames := 2, cells := 0, slots := 0, locals := 47 } [.ref qy, .int p1, .int p2] [(qy, .inr (4, [.ref qn, .ref qy_far, .int y_usable])), (qy_far, .inl (cI, 9, .inl y_far)), (qn, .inr (1, [.int n_nodes, .int n_links, .int n_room, .int n_alive, .int n_inMap, .ref qn_low, .ref qn_high, .ref qn_length])), (qn_low, .inl (cI, 18, .inl n_low)), (qn_high, .inl (cI, 18, .inl n_high)), (qn_length, .inl (cI, 18, .inl n_length))] r [(qy, .inr (4, [.ref qn, .ref qy_far, .int y_usable])), (qy_far, .inl (cI, 9, .inl y_far)), (qn, .inr (1, [.int n_nodes, .int n_links, .int n_room, .int n_alive, .int n_inMap, .ref qn_low, .ref qn_high, .ref qn_length])), (qn_low, .inl (cI, 18, .inl n_low)), (qn_high, .inl (cI, 18, .inl n_high)), (qn_length, .inl (cI, 18, .inl n_length))] := by
  refine k_startI (by decide) (Nat.le_of_ble_eq_true rfl) ?_
  intro p e s m below meth c A ls hx hb hr hml hown hts hlocks hT hZ hA hP hD hS hl
  have hK := hT.1
  have hu : ∀ w ∈ k_U, w.before ([.ref qy, .int p1, .int p2] : List Value).toArray s = true := fun w h => hts w (List.mem_cons_of_mem _ h)
  have hown : s.vm.findClass RX4 = some m.cls := hown
  have hl : lv_has ls 6 [(0, .ref qy), (1, .int p1), (2, .int p2)] := hl
  unfold f_X4_nodeAfter at h
  have w5 : ∀ (n5 : Nat) (x2 : Int32) (x3 : Int32) (x4 : Int32) (y_far : (Nat → Int32)) (y_usable : Int32) (n_links : Int32) (n_low : (Nat → Int32)) (n_high : (Nat → Int32)) (n_length : (Nat → Int32)) (H : Heap) (locs : List Loc) (ls : Array Slot), va_P D vwCl [(qy, .inr (4, [.ref qn, .ref qy_far, .int y_usable])), (qy_far, .inl (cI, 9, .inl y_far)), (qn, .inr (1, [.int n_nodes, .int n_links, .int n_room, .int n_alive, .int n_inMap, .ref qn_low, .ref qn_high, .ref qn_length])), (qn_low, .inl (cI, 18, .inl n_low)), (qn_high, .inl (cI, 18, .inl n_high)), (qn_length, .inl (cI, 18, .inl n_length))] H → va_D A [(qy, .inr (4, [.ref qn, .ref qy_far, .int y_usable])), (qy_far, .inl (cI, 9, .inl y_far)), (qn, .inr (1, [.int n_nodes, .int n_links, .int n_room, .int n_alive, .int n_inMap, .ref qn_low, .ref qn_high, .ref qn_length])), (qn_low, .inl (cI, 18, .inl n_low)), (qn_high, .inl (cI, 18, .inl n_high)), (qn_length, .inl (cI, 18, .inl n_length))] → va_S A s.heap H locs → lv_has ls 6 [(0, .ref qy), (2, .int x2), (3, .int x3), (4, .int x4)] → f_X4_nodeAfter_b5 n5 x2 x3 x4 y_far y_usable n_links n_low n_high n_length = some r → W p l e { frames := 2, cells := 0, slots := 0, locals := 47 } s m ([.ref qy, .int p1, .int p2] : List Value).toArray below meth c H locs 0 0 (MQ below (k_QI D r [(qy, .inr (4, [.ref qn, .ref qy_far, .int y_usable])), (qy_far, .inl (cI, 9, .inl y_far)), (qn, .inr (1, [.int n_nodes, .int n_links, .int n_room, .int n_alive, .int n_inMap, .ref qn_low, .ref qn_high, .ref qn_length])), (qn_low, .inl (cI, 18, .inl n_low)), (qn_high, .inl (cI, 18, .inl n_high)), (qn_length, .inl (cI, 18, .inl n_length))] A) ([.ref qy, .int p1, .int p2] : List Value).toArray s 0 0 A) (F0 m 5 ls []) := by
    intro n5
    induction n5 with
    | zero =>
      intro x2 x3 x4 y_far y_usable n_links n_low n_high n_length H locs ls hP hD hS hl h
      rw [f_X4_nodeAfter_b5] at h
      cases h
    | succ n5 ih5 =>
      intro x2 x3 x4 y_far y_usable n_links n_low n_high n_length H locs ls hP hD hS hl h
      rw [f_X4_nodeAfter_b5] at h
      refine lv_iload hx hb dX4_nodeAfter_5 (lv_at hl 3 rfl) ?_
      refine lv_iload_n hx hb dX4_nodeAfter_7 rfl (lv_at hl 1 rfl) ?_
      refine lv_icmp_ge (tgt := 51) hx hb dX4_nodeAfter_8 (by decide) (fun cc_1 => ?_) (fun cc_1 => ?_)
      · have h := (if_pos cc_1).symm.trans h
        refine lv_iload_n hx hb dX4_nodeAfter_51 rfl (lv_at hl 2 rfl) ?_
        have hq := Option.some.inj h
        clear h
        subst hq
        exact k_retI hx hb hr hlocks hP hD hS dX4_nodeAfter_52
      · have h := (if_neg cc_1).symm.trans h
        refine lv_iload hx hb dX4_nodeAfter_11 (lv_at hl 3 rfl) ?_
        refine lv_bipush (v := (9 : Int32)) hx hb dX4_nodeAfter_13 (by decide) ?_
        refine lv_icmp_ge (tgt := 51) hx hb dX4_nodeAfter_15 (by decide) (fun cc_2 => ?_) (fun cc_2 => ?_)
        · have h := (if_pos cc_2).symm.trans h
          refine lv_iload_n hx hb dX4_nodeAfter_51 rfl (lv_at hl 2 rfl) ?_
          have hq := Option.some.inj h
          clear h
          subst hq
          exact k_retI hx hb hr hlocks hP hD hS dX4_nodeAfter_52
        · have h := (if_neg cc_2).symm.trans h
          refine lv_aload_n hx hb dX4_nodeAfter_18 rfl (lv_at hl 0 rfl) ?_
          refine lv_iload_n hx hb dX4_nodeAfter_19 rfl (lv_at hl 2 rfl) ?_
          obtain ⟨r_3, hc_4, h⟩ := ob_bind h
          refine k_callVIr (qb := 0) [0, 1, 2, 3, 4, 5] (As := [.int x3]) (rest := []) ⟨hx, hb, hml, hown, hts⟩ hT hZ hA hP hD hS (c_X4_firstLinkFrom l D cI cZ cN aK aV qy qy_far qn qn_low qn_high qn_length y_far y_usable n_nodes n_links n_room n_alive n_inMap n_low n_high n_length x3 r_3 hc_4) ⟨callB_of 1 hts (k_good u_493) rfl rfl rfl (hu _ u_47) (hu _ u_490) (by decide +kernel) ⟨Nat.le_of_ble_eq_true rfl, Nat.le_of_ble_eq_true rfl⟩, hu _ u_491, hu _ u_492⟩ rfl rfl rfl (by decide) rfl hl.1 rfl (Nat.le_of_ble_eq_true rfl) dX4_nodeAfter_20 (fun H locs hP hD hS => ?_)
          refine lv_istore (lv' := [(5, .int r_3), (0, .ref qy), (2, .int x2), (3, .int x3), (4, .int x4)]) hx hb dX4_nodeAfter_23 hl (by decide) rfl (fun ls hl => ?_)
          refine lv_iload hx hb dX4_nodeAfter_25 (lv_at hl 0 rfl) ?_
          refine lv_iconst (v := (-1 : Int32)) hx hb dX4_nodeAfter_27 (by decide) ?_
          refine lv_icmp_ne (tgt := 34) hx hb dX4_nodeAfter_28 (by decide) (fun cc_5 => ?_) (fun cc_5 => ?_)
          · have h := (if_neg cc_5).symm.trans h
            refine lv_aload_n hx hb dX4_nodeAfter_34 rfl (lv_at hl 1 rfl) ?_
            refine va_get (D := D) (ci := 4) (v := .ref qn) (C := RX4) (T := TX4) (N := 3) hx hb hu k_iX4 hown hK hP 0 rfl rfl 0 (by decide) (hu _ u_127) (fun _ h9 => h9) rfl dX4_nodeAfter_35 ?_
            refine lv_iload hx hb dX4_nodeAfter_38 (lv_at hl 0 rfl) ?_
            refine lv_iload_n hx hb dX4_nodeAfter_40 rfl (lv_at hl 3 rfl) ?_
            obtain ⟨r_6, hc_7, h⟩ := ob_bind h
            refine k_callVIr (qb := 0) [2, 3, 4] (As := [.int r_3, .int x3]) (rest := []) ⟨hx, hb, hml, hown, hts⟩ hT hZ hA hP hD hS (c_X1_otherEnd l D cI cZ cN aK aV qn qn_low qn_high qn_length n_nodes n_links n_room n_alive n_inMap n_low n_high r_3 x3 r_6 hc_7) ⟨callB_of 2 hts (k_good u_497) rfl rfl rfl (hu _ u_46) (hu _ u_494) (by decide +kernel) ⟨Nat.le_of_ble_eq_true rfl, Nat.le_of_ble_eq_true rfl⟩, hu _ u_495, hu _ u_496⟩ rfl rfl rfl (by decide) rfl hl.1 rfl (Nat.le_of_ble_eq_true rfl) dX4_nodeAfter_41 (fun H locs hP hD hS => ?_)
            refine lv_istore_n (lv' := [(3, .int r_6), (5, .int r_3), (0, .ref qy), (2, .int x2), (4, .int x4)]) hx hb dX4_nodeAfter_44 rfl hl (by decide) rfl (fun ls hl => ?_)
            refine lv_iinc (v := (x4 + (1 : Int32))) (lv' := [(4, .int (x4 + (1 : Int32))), (3, .int r_6), (5, .int r_3), (0, .ref qy), (2, .int x2)]) hx hb dX4_nodeAfter_45 hl (k := 4) rfl rfl (by decide) rfl (fun ls hl => ?_)
            refine lv_goto (tgt := 5) hx hb dX4_nodeAfter_48 (by decide) ?_
            exact ih5 x2 r_6 (x4 + (1 : Int32)) y_far y_usable n_links n_low n_high n_length _ _ _ hP hD hS (lv_sub hl [3, 4, 1, 0] rfl) h
          · have h := (if_pos cc_5).symm.trans h
            refine lv_bipush (v := (-9 : Int32)) hx hb dX4_nodeAfter_31 (by decide) ?_
            have hq := Option.some.inj h
            clear h
            subst hq
            exact k_retI hx hb hr hlocks hP hD hS dX4_nodeAfter_33
  refine lv_iload_n hx hb dX4_nodeAfter_0 rfl (lv_at hl 1 rfl) ?_
  refine lv_istore_n (lv' := [(3, .int p1), (0, .ref qy), (1, .int p1), (2, .int p2)]) hx hb dX4_nodeAfter_1 rfl hl (by decide) rfl (fun ls hl => ?_)
  refine lv_iconst (v := (0 : Int32)) hx hb dX4_nodeAfter_2 (by decide) ?_
  refine lv_istore (lv' := [(4, .int (0 : Int32)), (3, .int p1), (0, .ref qy), (1, .int p1), (2, .int p2)]) hx hb dX4_nodeAfter_3 hl (by decide) rfl (fun ls hl => ?_)
  exact w5 1000 p2 p1 (0 : Int32) y_far y_usable n_links n_low n_high n_length _ _ _ hP hD hS (lv_sub hl [2, 4, 1, 0] rfl) h
