def f_X6_add (p1 : Int32) (p2 : Int32) (p3 : Int32) (m_w : (Nat → Int32)) (m_past : (Nat → Int32)) (m_pastMany : Int32) (m_isOld : Int32) : Option (Int32 × (Nat → Int32) × (Nat → Int32) × Int32 × Int32) :=
  (f_X6_faultOfAdd p1 p2 p3 m_w).bind fun r_1 =>
  if (0 : Int32) ≤ r_1 then
    (f_X6_remember m_w m_past m_pastMany).bind fun ⟨o_4, o_5⟩ =>
    (f_X6_append p1 p2 p3 m_w).bind fun o_7 =>
    some (((o_7 (Int32.toNatClampNeg (1 : Int32))) - (1 : Int32)), o_7, o_4, o_5, (1 : Int32))
  else
    some (r_1, m_w, m_past, m_pastMany, m_isOld)
set_option maxHeartbeats 4000000 in
set_option maxRecDepth 100000 in
theorem c_X6_add (l : Launch) (D : va_G) (cI cZ cN : ClassId) (aK aV : Nat → Nat)  (qm : Nat) (qm_w : Nat) (qm_past : Nat) (qm_images : Nat) (qm_text : Nat) (qm_may : Nat) (qm_least : Nat) (qm_isCarried : Nat) (qm_list : Nat) (qm_nodes : Nat) (qm_kept : Nat) (qm_keptLow : Nat) (qm_keptHigh : Nat) (qm_keptNodes : Nat) (qm_numbers : Nat) (qm_sums : Nat) (qm_commands : Nat) (qm_held : Nat) (m_w : (Nat → Int32)) (m_past : (Nat → Int32)) (m_pastMany : Int32) (m_filled : Int32) (m_length : Int32) (m_listMany : Int32) (m_went : Int32) (m_cost : Int32) (m_cause : Int32) (m_looks : Int32) (m_isSent : Int32) (m_isOld : Int32) (m_keptMany : Int32) (m_commandMany : Int32) (p1 p2 p3 : Int32) (r : Int32) (z_m_w : (Nat → Int32)) (z_m_past : (Nat → Int32)) (z_m_pastMany : Int32) (z_m_isOld : Int32) (h : f_X6_add p1 p2 p3 m_w m_past m_pastMany m_isOld = some (r, z_m_w, z_m_past, z_m_pastMany, z_m_isOld)) : CtI l D cI cZ cN aK aV yX6_add (k_W yX6_add cX6_add 5 (some .int)) { frames := 3, cells := 0, slots := 0, locals := 68 } [.ref qm, .int p1, .int p2, .int p3] [(qm, .inr (6, [.ref qm_w, .ref qm_past, .int m_pastMany, .ref qm_images, .int m_filled, .ref qm_text, .int m_length, .ref qm_may, .ref qm_least, .ref qm_isCarried, .ref qm_list, .ref qm_nodes, .int m_listMany, .int m_went, .int m_cost, .int m_cause, .int m_looks, .int m_isSent, .int m_isOld, .ref qm_kept, .ref qm_keptLow, .ref qm_keptHigh, .int m_keptMany, .ref qm_keptNodes, .ref qm_numbers, .ref qm_sums, .ref qm_commands, .int m_commandMany, .ref qm_held])), (qm_w, .inl (cI, 93, .inl m_w)), (qm_past, .inl (cI, 744, .inl m_past))] r [(qm, .inr (6, [.ref qm_w, .ref qm_past, .int z_m_pastMany, .ref qm_images, .int m_filled, .ref qm_text, .int m_length, .ref qm_may, .ref qm_least, .ref qm_isCarried, .ref qm_list, .ref qm_nodes, .int m_listMany, .int m_went, .int m_cost, .int m_cause, .int m_looks, .int m_isSent, .int z_m_isOld, .ref qm_kept, .ref qm_keptLow, .ref qm_keptHigh, .int m_keptMany, .ref qm_keptNodes, .ref qm_numbers, .ref qm_sums, .ref qm_commands, .int m_commandMany, .ref qm_held])), (qm_w, .inl (cI, 93, .inl z_m_w)), (qm_past, .inl (cI, 744, .inl z_m_past))] := by
  refine k_startI (by decide) (Nat.le_of_ble_eq_true rfl) ?_
  intro p e s m below meth c A ls hx hb hr hml hown hts hlocks hT hZ hA hP hD hS hl
  have hK := hT.1
  have hu : ∀ w ∈ k_U, w.before ([.ref qm, .int p1, .int p2, .int p3] : List Value).toArray s = true := fun w h => hts w (List.mem_cons_of_mem _ h)
  have hown : s.vm.findClass RX6 = some m.cls := hown
  have hl : lv_has ls 5 [(0, .ref qm), (1, .int p1), (2, .int p2), (3, .int p3)] := hl
  unfold f_X6_add at h
  refine lv_aload_n hx hb dX6_add_0 rfl (lv_at hl 0 rfl) ?_
  refine lv_iload_n hx hb dX6_add_1 rfl (lv_at hl 1 rfl) ?_
  refine lv_iload_n hx hb dX6_add_2 rfl (lv_at hl 2 rfl) ?_
  refine lv_iload_n hx hb dX6_add_3 rfl (lv_at hl 3 rfl) ?_
  obtain ⟨r_1, hc_2, h⟩ := ob_bind h
  refine k_callVIr (qb := 0) [0, 1] (As := [.int p1, .int p2, .int p3]) (rest := []) ⟨hx, hb, hml, hown, hts⟩ hT hZ hA hP hD hS (c_X6_faultOfAdd l D cI cZ cN aK aV qm qm_w qm_past qm_images qm_text qm_may qm_least qm_isCarried qm_list qm_nodes qm_kept qm_keptLow qm_keptHigh qm_keptNodes qm_numbers qm_sums qm_commands qm_held m_w m_pastMany m_filled m_length m_listMany m_went m_cost m_cause m_looks m_isSent m_isOld m_keptMany m_commandMany p1 p2 p3 r_1 hc_2) ⟨callB_of 3 hts (k_good u_828) rfl rfl rfl (hu _ u_51) (hu _ u_825) (by decide +kernel) ⟨Nat.le_of_ble_eq_true rfl, Nat.le_of_ble_eq_true rfl⟩, hu _ u_827, hu _ u_20⟩ rfl rfl rfl (by decide) rfl hl.1 rfl (Nat.le_of_ble_eq_true rfl) dX6_add_4 (fun H locs hP hD hS => ?_)
  refine lv_istore (lv' := [(4, .int r_1), (0, .ref qm), (1, .int p1), (2, .int p2), (3, .int p3)]) hx hb dX6_add_7 hl (by decide) rfl (fun ls hl => ?_)
  refine lv_iload hx hb dX6_add_9 (lv_at hl 0 rfl) ?_
  refine lv_if_ge (tgt := 17) hx hb dX6_add_11 (by decide) (fun cc_3 => ?_) (fun cc_3 => ?_)
  · have h := (if_pos cc_3).symm.trans h
    refine lv_aload_n hx hb dX6_add_17 rfl (lv_at hl 1 rfl) ?_
    obtain ⟨⟨o_4, o_5⟩, hc_6, h⟩ := ob_bind h
    dsimp only at h
    refine k_callVV (qb := 0) [0, 1, 2] [0, 2] [0, 2] [(qm, .inr (6, [.ref qm_w, .ref qm_past, .int o_5, .ref qm_images, .int m_filled, .ref qm_text, .int m_length, .ref qm_may, .ref qm_least, .ref qm_isCarried, .ref qm_list, .ref qm_nodes, .int m_listMany, .int m_went, .int m_cost, .int m_cause, .int m_looks, .int m_isSent, .int m_isOld, .ref qm_kept, .ref qm_keptLow, .ref qm_keptHigh, .int m_keptMany, .ref qm_keptNodes, .ref qm_numbers, .ref qm_sums, .ref qm_commands, .int m_commandMany, .ref qm_held])), (qm_past, .inl (cI, 744, .inl o_4))] (As := []) (rest := []) ⟨hx, hb, hml, hown, hts⟩ hT hZ hA hP hD hS (c_X6_remember l D cI cZ cN aK aV qm qm_w qm_past qm_images qm_text qm_may qm_least qm_isCarried qm_list qm_nodes qm_kept qm_keptLow qm_keptHigh qm_keptNodes qm_numbers qm_sums qm_commands qm_held m_w m_past m_pastMany m_filled m_length m_listMany m_went m_cost m_cause m_looks m_isSent m_isOld m_keptMany m_commandMany o_4 o_5 hc_6) ⟨callB_of 0 hts (k_good u_816) rfl rfl rfl (hu _ u_51) (hu _ u_813) (by decide +kernel) ⟨Nat.le_of_ble_eq_true rfl, Nat.le_of_ble_eq_true rfl⟩, hu _ u_815, hu _ u_18⟩ rfl rfl rfl (by decide) (by decide) (by decide) rfl rfl rfl rfl hl.1 rfl (Nat.le_of_ble_eq_true rfl) dX6_add_18 (fun H locs hP hD hS => ?_)
    have hP : va_P D vwCl [(qm, .inr (6, [.ref qm_w, .ref qm_past, .int o_5, .ref qm_images, .int m_filled, .ref qm_text, .int m_length, .ref qm_may, .ref qm_least, .ref qm_isCarried, .ref qm_list, .ref qm_nodes, .int m_listMany, .int m_went, .int m_cost, .int m_cause, .int m_looks, .int m_isSent, .int m_isOld, .ref qm_kept, .ref qm_keptLow, .ref qm_keptHigh, .int m_keptMany, .ref qm_keptNodes, .ref qm_numbers, .ref qm_sums, .ref qm_commands, .int m_commandMany, .ref qm_held])), (qm_w, .inl (cI, 93, .inl m_w)), (qm_past, .inl (cI, 744, .inl o_4))] H := hP
    have hD : va_D A [(qm, .inr (6, [.ref qm_w, .ref qm_past, .int o_5, .ref qm_images, .int m_filled, .ref qm_text, .int m_length, .ref qm_may, .ref qm_least, .ref qm_isCarried, .ref qm_list, .ref qm_nodes, .int m_listMany, .int m_went, .int m_cost, .int m_cause, .int m_looks, .int m_isSent, .int m_isOld, .ref qm_kept, .ref qm_keptLow, .ref qm_keptHigh, .int m_keptMany, .ref qm_keptNodes, .ref qm_numbers, .ref qm_sums, .ref qm_commands, .int m_commandMany, .ref qm_held])), (qm_w, .inl (cI, 93, .inl m_w)), (qm_past, .inl (cI, 744, .inl o_4))] := hD
    refine lv_aload_n hx hb dX6_add_21 rfl (lv_at hl 1 rfl) ?_
    refine lv_iload_n hx hb dX6_add_22 rfl (lv_at hl 2 rfl) ?_
    refine lv_iload_n hx hb dX6_add_23 rfl (lv_at hl 3 rfl) ?_
    refine lv_iload_n hx hb dX6_add_24 rfl (lv_at hl 4 rfl) ?_
    obtain ⟨o_7, hc_8, h⟩ := ob_bind h
    refine k_callVV (qb := 0) [0, 1] [1] [1] [(qm_w, .inl (cI, 93, .inl o_7))] (As := [.int p1, .int p2, .int p3]) (rest := []) ⟨hx, hb, hml, hown, hts⟩ hT hZ hA hP hD hS (c_X6_append l D cI cZ cN aK aV qm qm_w qm_past qm_images qm_text qm_may qm_least qm_isCarried qm_list qm_nodes qm_kept qm_keptLow qm_keptHigh qm_keptNodes qm_numbers qm_sums qm_commands qm_held m_w o_5 m_filled m_length m_listMany m_went m_cost m_cause m_looks m_isSent m_isOld m_keptMany m_commandMany p1 p2 p3 o_7 hc_8) ⟨callB_of 3 hts (k_good u_844) rfl rfl rfl (hu _ u_51) (hu _ u_841) (by decide +kernel) ⟨Nat.le_of_ble_eq_true rfl, Nat.le_of_ble_eq_true rfl⟩, hu _ u_843, hu _ u_24⟩ rfl rfl rfl (by decide) (by decide) (by decide) rfl rfl rfl rfl hl.1 rfl (Nat.le_of_ble_eq_true rfl) dX6_add_25 (fun H locs hP hD hS => ?_)
    have hP : va_P D vwCl [(qm, .inr (6, [.ref qm_w, .ref qm_past, .int o_5, .ref qm_images, .int m_filled, .ref qm_text, .int m_length, .ref qm_may, .ref qm_least, .ref qm_isCarried, .ref qm_list, .ref qm_nodes, .int m_listMany, .int m_went, .int m_cost, .int m_cause, .int m_looks, .int m_isSent, .int m_isOld, .ref qm_kept, .ref qm_keptLow, .ref qm_keptHigh, .int m_keptMany, .ref qm_keptNodes, .ref qm_numbers, .ref qm_sums, .ref qm_commands, .int m_commandMany, .ref qm_held])), (qm_w, .inl (cI, 93, .inl o_7)), (qm_past, .inl (cI, 744, .inl o_4))] H := hP
    have hD : va_D A [(qm, .inr (6, [.ref qm_w, .ref qm_past, .int o_5, .ref qm_images, .int m_filled, .ref qm_text, .int m_length, .ref qm_may, .ref qm_least, .ref qm_isCarried, .ref qm_list, .ref qm_nodes, .int m_listMany, .int m_went, .int m_cost, .int m_cause, .int m_looks, .int m_isSent, .int m_isOld, .ref qm_kept, .ref qm_keptLow, .ref qm_keptHigh, .int m_keptMany, .ref qm_keptNodes, .ref qm_numbers, .ref qm_sums, .ref qm_commands, .int m_commandMany, .ref qm_held])), (qm_w, .inl (cI, 93, .inl o_7)), (qm_past, .inl (cI, 744, .inl o_4))] := hD
    refine lv_aload_n hx hb dX6_add_28 rfl (lv_at hl 1 rfl) ?_
    refine lv_iconst (v := (1 : Int32)) hx hb dX6_add_29 (by decide) ?_
    refine va_put (D := D) (ci := 6) (v := .int (1 : Int32)) (ty := .boolean) (C := RX6) (T := TX6) (N := 29) hx hb hu k_iX6 tyX6 tyX6_ok nmX6 hown hK hP hD hS 0 rfl rfl 18 (by decide) (hu _ u_736) (fun _ h9 => h9) rfl (by decide +kernel) rfl rfl (Nat.le_of_ble_eq_true rfl) dX6_add_30 (fun H locs hP hD hS => ?_)
    have hP : va_P D vwCl [(qm, .inr (6, [.ref qm_w, .ref qm_past, .int o_5, .ref qm_images, .int m_filled, .ref qm_text, .int m_length, .ref qm_may, .ref qm_least, .ref qm_isCarried, .ref qm_list, .ref qm_nodes, .int m_listMany, .int m_went, .int m_cost, .int m_cause, .int m_looks, .int m_isSent, .int (1 : Int32), .ref qm_kept, .ref qm_keptLow, .ref qm_keptHigh, .int m_keptMany, .ref qm_keptNodes, .ref qm_numbers, .ref qm_sums, .ref qm_commands, .int m_commandMany, .ref qm_held])), (qm_w, .inl (cI, 93, .inl o_7)), (qm_past, .inl (cI, 744, .inl o_4))] H := hP
    have hD : va_D A [(qm, .inr (6, [.ref qm_w, .ref qm_past, .int o_5, .ref qm_images, .int m_filled, .ref qm_text, .int m_length, .ref qm_may, .ref qm_least, .ref qm_isCarried, .ref qm_list, .ref qm_nodes, .int m_listMany, .int m_went, .int m_cost, .int m_cause, .int m_looks, .int m_isSent, .int (1 : Int32), .ref qm_kept, .ref qm_keptLow, .ref qm_keptHigh, .int m_keptMany, .ref qm_keptNodes, .ref qm_numbers, .ref qm_sums, .ref qm_commands, .int m_commandMany, .ref qm_held])), (qm_w, .inl (cI, 93, .inl o_7)), (qm_past, .inl (cI, 744, .inl o_4))] := hD
    refine lv_aload_n hx hb dX6_add_33 rfl (lv_at hl 1 rfl) ?_
    refine va_get (D := D) (ci := 6) (v := .ref qm_w) (C := RX6) (T := TX6) (N := 29) hx hb hu k_iX6 hown hK hP 0 rfl rfl 0 (by decide) (hu _ u_718) (fun _ h9 => h9) rfl dX6_add_34 ?_
    refine lv_iconst (v := (1 : Int32)) hx hb dX6_add_37 (by decide) ?_
    refine va_iald (D := D) hx hb hK hP 1 0 rfl rfl (inb_in (by decide)) dX6_add_38 ?_
    refine lv_iconst (v := (1 : Int32)) hx hb dX6_add_39 (by decide) ?_
    refine lv_isub hx hb dX6_add_40 ?_
    have hq := Option.some.inj h
    clear h
    obtain ⟨e0, hq0⟩ := Prod.mk.inj hq
    clear hq
    obtain ⟨e1, hq1⟩ := Prod.mk.inj hq0
    clear hq0
    obtain ⟨e2, hq2⟩ := Prod.mk.inj hq1
    clear hq1
    obtain ⟨e3, hq3⟩ := Prod.mk.inj hq2
    clear hq2
    subst e0
    subst e1
    subst e2
    subst e3
    subst hq3
    exact k_retI hx hb hr hlocks hP hD hS dX6_add_41
  · have h := (if_neg cc_3).symm.trans h
    refine lv_iload hx hb dX6_add_14 (lv_at hl 0 rfl) ?_
    have hq := Option.some.inj h
    clear h
    obtain ⟨e0, hq0⟩ := Prod.mk.inj hq
    clear hq
    obtain ⟨e1, hq1⟩ := Prod.mk.inj hq0
    clear hq0
    obtain ⟨e2, hq2⟩ := Prod.mk.inj hq1
    clear hq1
    obtain ⟨e3, hq3⟩ := Prod.mk.inj hq2
    clear hq2
    subst e0
    subst e1
    subst e2
    subst e3
    subst hq3
    exact k_retI hx hb hr hlocks hP hD hS dX6_add_16
def f_X6_remove_b20  : Nat → Int32 → (Nat → Int32) → (Nat → Int32) → Int32 → Int32 → Option (Int32 × (Nat → Int32) × (Nat → Int32) × Int32 × Int32)
  | 0, _, _, _, _, _ => none
  | n + 1, x2, m_w, m_past, m_pastMany, m_isOld =>
    if ((3 : Int32) + ((5 : Int32) * ((m_w (Int32.toNatClampNeg (1 : Int32))) - (1 : Int32)))) ≤ x2 then
      some (((upd m_w (Int32.toNatClampNeg (1 : Int32)) ((m_w (Int32.toNatClampNeg (1 : Int32))) - (1 : Int32))) (Int32.toNatClampNeg (1 : Int32))), (upd m_w (Int32.toNatClampNeg (1 : Int32)) ((m_w (Int32.toNatClampNeg (1 : Int32))) - (1 : Int32))), m_past, m_pastMany, (1 : Int32))
    else
      if inb (x2 + (5 : Int32)) 93 = true then
      if inb x2 93 = true then
      (f_X6_remove_b20 n) (x2 + (1 : Int32)) (upd m_w (Int32.toNatClampNeg x2) (m_w (Int32.toNatClampNeg (x2 + (5 : Int32))))) m_past m_pastMany m_isOld
      else none
      else none
def f_X6_remove (p1 : Int32) (m_w : (Nat → Int32)) (m_past : (Nat → Int32)) (m_pastMany : Int32) (m_isOld : Int32) : Option (Int32 × (Nat → Int32) × (Nat → Int32) × Int32 × Int32) :=
  (f_X6_isLink p1 m_w).bind fun r_1 =>
  if r_1 = (0 : Int32) then
    some ((-1 : Int32), m_w, m_past, m_pastMany, m_isOld)
  else
    (f_X6_remember m_w m_past m_pastMany).bind fun ⟨o_4, o_5⟩ =>
    f_X6_remove_b20 1000 ((3 : Int32) + ((5 : Int32) * p1)) m_w o_4 o_5 m_isOld
set_option maxHeartbeats 4000000 in
set_option maxRecDepth 100000 in
theorem c_X6_remove (l : Launch) (D : va_G) (cI cZ cN : ClassId) (aK aV : Nat → Nat)  (qm : Nat) (qm_w : Nat) (qm_past : Nat) (qm_images : Nat) (qm_text : Nat) (qm_may : Nat) (qm_least : Nat) (qm_isCarried : Nat) (qm_list : Nat) (qm_nodes : Nat) (qm_kept : Nat) (qm_keptLow : Nat) (qm_keptHigh : Nat) (qm_keptNodes : Nat) (qm_numbers : Nat) (qm_sums : Nat) (qm_commands : Nat) (qm_held : Nat) (m_w : (Nat → Int32)) (m_past : (Nat → Int32)) (m_pastMany : Int32) (m_filled : Int32) (m_length : Int32) (m_listMany : Int32) (m_went : Int32) (m_cost : Int32) (m_cause : Int32) (m_looks : Int32) (m_isSent : Int32) (m_isOld : Int32) (m_keptMany : Int32) (m_commandMany : Int32) (p1 : Int32) (r : Int32) (z_m_w : (Nat → Int32)) (z_m_past : (Nat → Int32)) (z_m_pastMany : Int32) (z_m_isOld : Int32) (h : f_X6_remove p1 m_w m_past m_pastMany m_isOld = some (r, z_m_w, z_m_past, z_m_pastMany, z_m_isOld)) : CtI l D cI cZ cN aK aV yX6_remove (k_W yX6_remove cX6_remove 3 (some .int)) { frames := 2, cells := 0, slots := 0, locals := 43 } [.ref qm, .int p1] [(qm, .inr (6, [.ref qm_w, .ref qm_past, .int m_pastMany, .ref qm_images, .int m_filled, .ref qm_text, .int m_length, .ref qm_may, .ref qm_least, .ref qm_isCarried, .ref qm_list, .ref qm_nodes, .int m_listMany, .int m_went, .int m_cost, .int m_cause, .int m_looks, .int m_isSent, .int m_isOld, .ref qm_kept, .ref qm_keptLow, .ref qm_keptHigh, .int m_keptMany, .ref qm_keptNodes, .ref qm_numbers, .ref qm_sums, .ref qm_commands, .int m_commandMany, .ref qm_held])), (qm_w, .inl (cI, 93, .inl m_w)), (qm_past, .inl (cI, 744, .inl m_past))] r [(qm, .inr (6, [.ref qm_w, .ref qm_past, .int z_m_pastMany, .ref qm_images, .int m_filled, .ref qm_text, .int m_length, .ref qm_may, .ref qm_least, .ref qm_isCarried, .ref qm_list, .ref qm_nodes, .int m_listMany, .int m_went, .int m_cost, .int m_cause, .int m_looks, .int m_isSent, .int z_m_isOld, .ref qm_kept, .ref qm_keptLow, .ref qm_keptHigh, .int m_keptMany, .ref qm_keptNodes, .ref qm_numbers, .ref qm_sums, .ref qm_commands, .int m_commandMany, .ref qm_held])), (qm_w, .inl (cI, 93, .inl z_m_w)), (qm_past, .inl (cI, 744, .inl z_m_past))] := by
  refine k_startI (by decide) (Nat.le_of_ble_eq_true rfl) ?_
  intro p e s m below meth c A ls hx hb hr hml hown hts hlocks hT hZ hA hP hD hS hl
  have hK := hT.1
  have hu : ∀ w ∈ k_U, w.before ([.ref qm, .int p1] : List Value).toArray s = true := fun w h => hts w (List.mem_cons_of_mem _ h)
  have hown : s.vm.findClass RX6 = some m.cls := hown
  have hl : lv_has ls 3 [(0, .ref qm), (1, .int p1)] := hl
  unfold f_X6_remove at h
  have w20 : ∀ (n20 : Nat) (x2 : Int32) (m_w : (Nat → Int32)) (m_past : (Nat → Int32)) (m_pastMany : Int32) (m_isOld : Int32) (H : Heap) (locs : List Loc) (ls : Array Slot), va_P D vwCl [(qm, .inr (6, [.ref qm_w, .ref qm_past, .int m_pastMany, .ref qm_images, .int m_filled, .ref qm_text, .int m_length, .ref qm_may, .ref qm_least, .ref qm_isCarried, .ref qm_list, .ref qm_nodes, .int m_listMany, .int m_went, .int m_cost, .int m_cause, .int m_looks, .int m_isSent, .int m_isOld, .ref qm_kept, .ref qm_keptLow, .ref qm_keptHigh, .int m_keptMany, .ref qm_keptNodes, .ref qm_numbers, .ref qm_sums, .ref qm_commands, .int m_commandMany, .ref qm_held])), (qm_w, .inl (cI, 93, .inl m_w)), (qm_past, .inl (cI, 744, .inl m_past))] H → va_D A [(qm, .inr (6, [.ref qm_w, .ref qm_past, .int m_pastMany, .ref qm_images, .int m_filled, .ref qm_text, .int m_length, .ref qm_may, .ref qm_least, .ref qm_isCarried, .ref qm_list, .ref qm_nodes, .int m_listMany, .int m_went, .int m_cost, .int m_cause, .int m_looks, .int m_isSent, .int m_isOld, .ref qm_kept, .ref qm_keptLow, .ref qm_keptHigh, .int m_keptMany, .ref qm_keptNodes, .ref qm_numbers, .ref qm_sums, .ref qm_commands, .int m_commandMany, .ref qm_held])), (qm_w, .inl (cI, 93, .inl m_w)), (qm_past, .inl (cI, 744, .inl m_past))] → va_S A s.heap H locs → lv_has ls 3 [(0, .ref qm), (2, .int x2)] → f_X6_remove_b20 n20 x2 m_w m_past m_pastMany m_isOld = some (r, z_m_w, z_m_past, z_m_pastMany, z_m_isOld) → W p l e { frames := 2, cells := 0, slots := 0, locals := 43 } s m ([.ref qm, .int p1] : List Value).toArray below meth c H locs 0 0 (MQ below (k_QI D r [(qm, .inr (6, [.ref qm_w, .ref qm_past, .int z_m_pastMany, .ref qm_images, .int m_filled, .ref qm_text, .int m_length, .ref qm_may, .ref qm_least, .ref qm_isCarried, .ref qm_list, .ref qm_nodes, .int m_listMany, .int m_went, .int m_cost, .int m_cause, .int m_looks, .int m_isSent, .int z_m_isOld, .ref qm_kept, .ref qm_keptLow, .ref qm_keptHigh, .int m_keptMany, .ref qm_keptNodes, .ref qm_numbers, .ref qm_sums, .ref qm_commands, .int m_commandMany, .ref qm_held])), (qm_w, .inl (cI, 93, .inl z_m_w)), (qm_past, .inl (cI, 744, .inl z_m_past))] A) ([.ref qm, .int p1] : List Value).toArray s 0 0 A) (F0 m 20 ls []) := by
    intro n20
    induction n20 with
    | zero =>
      intro x2 m_w m_past m_pastMany m_isOld H locs ls hP hD hS hl h
      rw [f_X6_remove_b20] at h
      cases h
    | succ n20 ih20 =>
      intro x2 m_w m_past m_pastMany m_isOld H locs ls hP hD hS hl h
      rw [f_X6_remove_b20] at h
      refine lv_iload_n hx hb dX6_remove_20 rfl (lv_at hl 1 rfl) ?_
      refine lv_iconst (v := (3 : Int32)) hx hb dX6_remove_21 (by decide) ?_
      refine lv_iconst (v := (5 : Int32)) hx hb dX6_remove_22 (by decide) ?_
      refine lv_aload_n hx hb dX6_remove_23 rfl (lv_at hl 0 rfl) ?_
      refine va_get (D := D) (ci := 6) (v := .ref qm_w) (C := RX6) (T := TX6) (N := 29) hx hb hu k_iX6 hown hK hP 0 rfl rfl 0 (by decide) (hu _ u_718) (fun _ h9 => h9) rfl dX6_remove_24 ?_
      refine lv_iconst (v := (1 : Int32)) hx hb dX6_remove_27 (by decide) ?_
      refine va_iald (D := D) hx hb hK hP 1 0 rfl rfl (inb_in (by decide)) dX6_remove_28 ?_
      refine lv_iconst (v := (1 : Int32)) hx hb dX6_remove_29 (by decide) ?_
      refine lv_isub hx hb dX6_remove_30 ?_
      refine lv_imul hx hb dX6_remove_31 ?_
      refine lv_iadd hx hb dX6_remove_32 ?_
      refine lv_icmp_ge (tgt := 56) hx hb dX6_remove_33 (by decide) (fun cc_7 => ?_) (fun cc_7 => ?_)
      · have h := (if_pos cc_7).symm.trans h
        refine lv_aload_n hx hb dX6_remove_56 rfl (lv_at hl 0 rfl) ?_
        refine va_get (D := D) (ci := 6) (v := .ref qm_w) (C := RX6) (T := TX6) (N := 29) hx hb hu k_iX6 hown hK hP 0 rfl rfl 0 (by decide) (hu _ u_718) (fun _ h9 => h9) rfl dX6_remove_57 ?_
        refine lv_iconst (v := (1 : Int32)) hx hb dX6_remove_60 (by decide) ?_
        refine lv_dup2_11 hx hb dX6_remove_61 rfl rfl ?_
        refine va_iald (D := D) hx hb hK hP 1 0 rfl rfl (inb_in (by decide)) dX6_remove_62 ?_
        refine lv_iconst (v := (1 : Int32)) hx hb dX6_remove_63 (by decide) ?_
        refine lv_isub hx hb dX6_remove_64 ?_
        refine va_iast (D := D) hx hb hK hP hD hS 1 0 rfl rfl (inb_in (by decide)) dX6_remove_65 (fun H locs hP hD hS => ?_)
        have hP : va_P D vwCl [(qm, .inr (6, [.ref qm_w, .ref qm_past, .int m_pastMany, .ref qm_images, .int m_filled, .ref qm_text, .int m_length, .ref qm_may, .ref qm_least, .ref qm_isCarried, .ref qm_list, .ref qm_nodes, .int m_listMany, .int m_went, .int m_cost, .int m_cause, .int m_looks, .int m_isSent, .int m_isOld, .ref qm_kept, .ref qm_keptLow, .ref qm_keptHigh, .int m_keptMany, .ref qm_keptNodes, .ref qm_numbers, .ref qm_sums, .ref qm_commands, .int m_commandMany, .ref qm_held])), (qm_w, .inl (cI, 93, .inl (upd m_w (Int32.toNatClampNeg (1 : Int32)) ((m_w (Int32.toNatClampNeg (1 : Int32))) - (1 : Int32))))), (qm_past, .inl (cI, 744, .inl m_past))] H := hP
        have hD : va_D A [(qm, .inr (6, [.ref qm_w, .ref qm_past, .int m_pastMany, .ref qm_images, .int m_filled, .ref qm_text, .int m_length, .ref qm_may, .ref qm_least, .ref qm_isCarried, .ref qm_list, .ref qm_nodes, .int m_listMany, .int m_went, .int m_cost, .int m_cause, .int m_looks, .int m_isSent, .int m_isOld, .ref qm_kept, .ref qm_keptLow, .ref qm_keptHigh, .int m_keptMany, .ref qm_keptNodes, .ref qm_numbers, .ref qm_sums, .ref qm_commands, .int m_commandMany, .ref qm_held])), (qm_w, .inl (cI, 93, .inl (upd m_w (Int32.toNatClampNeg (1 : Int32)) ((m_w (Int32.toNatClampNeg (1 : Int32))) - (1 : Int32))))), (qm_past, .inl (cI, 744, .inl m_past))] := hD
        refine lv_aload_n hx hb dX6_remove_66 rfl (lv_at hl 0 rfl) ?_
        refine lv_iconst (v := (1 : Int32)) hx hb dX6_remove_67 (by decide) ?_
        refine va_put (D := D) (ci := 6) (v := .int (1 : Int32)) (ty := .boolean) (C := RX6) (T := TX6) (N := 29) hx hb hu k_iX6 tyX6 tyX6_ok nmX6 hown hK hP hD hS 0 rfl rfl 18 (by decide) (hu _ u_736) (fun _ h9 => h9) rfl (by decide +kernel) rfl rfl (Nat.le_of_ble_eq_true rfl) dX6_remove_68 (fun H locs hP hD hS => ?_)
        have hP : va_P D vwCl [(qm, .inr (6, [.ref qm_w, .ref qm_past, .int m_pastMany, .ref qm_images, .int m_filled, .ref qm_text, .int m_length, .ref qm_may, .ref qm_least, .ref qm_isCarried, .ref qm_list, .ref qm_nodes, .int m_listMany, .int m_went, .int m_cost, .int m_cause, .int m_looks, .int m_isSent, .int (1 : Int32), .ref qm_kept, .ref qm_keptLow, .ref qm_keptHigh, .int m_keptMany, .ref qm_keptNodes, .ref qm_numbers, .ref qm_sums, .ref qm_commands, .int m_commandMany, .ref qm_held])), (qm_w, .inl (cI, 93, .inl (upd m_w (Int32.toNatClampNeg (1 : Int32)) ((m_w (Int32.toNatClampNeg (1 : Int32))) - (1 : Int32))))), (qm_past, .inl (cI, 744, .inl m_past))] H := hP
        have hD : va_D A [(qm, .inr (6, [.ref qm_w, .ref qm_past, .int m_pastMany, .ref qm_images, .int m_filled, .ref qm_text, .int m_length, .ref qm_may, .ref qm_least, .ref qm_isCarried, .ref qm_list, .ref qm_nodes, .int m_listMany, .int m_went, .int m_cost, .int m_cause, .int m_looks, .int m_isSent, .int (1 : Int32), .ref qm_kept, .ref qm_keptLow, .ref qm_keptHigh, .int m_keptMany, .ref qm_keptNodes, .ref qm_numbers, .ref qm_sums, .ref qm_commands, .int m_commandMany, .ref qm_held])), (qm_w, .inl (cI, 93, .inl (upd m_w (Int32.toNatClampNeg (1 : Int32)) ((m_w (Int32.toNatClampNeg (1 : Int32))) - (1 : Int32))))), (qm_past, .inl (cI, 744, .inl m_past))] := hD
        refine lv_aload_n hx hb dX6_remove_71 rfl (lv_at hl 0 rfl) ?_
        refine va_get (D := D) (ci := 6) (v := .ref qm_w) (C := RX6) (T := TX6) (N := 29) hx hb hu k_iX6 hown hK hP 0 rfl rfl 0 (by decide) (hu _ u_718) (fun _ h9 => h9) rfl dX6_remove_72 ?_
        refine lv_iconst (v := (1 : Int32)) hx hb dX6_remove_75 (by decide) ?_
        refine va_iald (D := D) hx hb hK hP 1 0 rfl rfl (inb_in (by decide)) dX6_remove_76 ?_
        have hq := Option.some.inj h
        clear h
        obtain ⟨e0, hq0⟩ := Prod.mk.inj hq
        clear hq
        obtain ⟨e1, hq1⟩ := Prod.mk.inj hq0
        clear hq0
        obtain ⟨e2, hq2⟩ := Prod.mk.inj hq1
        clear hq1
        obtain ⟨e3, hq3⟩ := Prod.mk.inj hq2
        clear hq2
        subst e0
        subst e1
        subst e2
        subst e3
        subst hq3
        exact k_retI hx hb hr hlocks hP hD hS dX6_remove_77
      · have h := (if_neg cc_7).symm.trans h
        refine lv_aload_n hx hb dX6_remove_36 rfl (lv_at hl 0 rfl) ?_
        refine va_get (D := D) (ci := 6) (v := .ref qm_w) (C := RX6) (T := TX6) (N := 29) hx hb hu k_iX6 hown hK hP 0 rfl rfl 0 (by decide) (hu _ u_718) (fun _ h9 => h9) rfl dX6_remove_37 ?_
        refine lv_iload_n hx hb dX6_remove_40 rfl (lv_at hl 1 rfl) ?_
        refine lv_aload_n hx hb dX6_remove_41 rfl (lv_at hl 0 rfl) ?_
        refine va_get (D := D) (ci := 6) (v := .ref qm_w) (C := RX6) (T := TX6) (N := 29) hx hb hu k_iX6 hown hK hP 0 rfl rfl 0 (by decide) (hu _ u_718) (fun _ h9 => h9) rfl dX6_remove_42 ?_
        refine lv_iload_n hx hb dX6_remove_45 rfl (lv_at hl 1 rfl) ?_
        refine lv_iconst (v := (5 : Int32)) hx hb dX6_remove_46 (by decide) ?_
        refine lv_iadd hx hb dX6_remove_47 ?_
        obtain ⟨hin_8, h⟩ := ob_if h
        have hin_8 := inb_in hin_8
        refine va_iald (D := D) hx hb hK hP 1 0 rfl rfl hin_8 dX6_remove_48 ?_
        obtain ⟨hin_9, h⟩ := ob_if h
        have hin_9 := inb_in hin_9
        refine va_iast (D := D) hx hb hK hP hD hS 1 0 rfl rfl hin_9 dX6_remove_49 (fun H locs hP hD hS => ?_)
        have hP : va_P D vwCl [(qm, .inr (6, [.ref qm_w, .ref qm_past, .int m_pastMany, .ref qm_images, .int m_filled, .ref qm_text, .int m_length, .ref qm_may, .ref qm_least, .ref qm_isCarried, .ref qm_list, .ref qm_nodes, .int m_listMany, .int m_went, .int m_cost, .int m_cause, .int m_looks, .int m_isSent, .int m_isOld, .ref qm_kept, .ref qm_keptLow, .ref qm_keptHigh, .int m_keptMany, .ref qm_keptNodes, .ref qm_numbers, .ref qm_sums, .ref qm_commands, .int m_commandMany, .ref qm_held])), (qm_w, .inl (cI, 93, .inl (upd m_w (Int32.toNatClampNeg x2) (m_w (Int32.toNatClampNeg (x2 + (5 : Int32))))))), (qm_past, .inl (cI, 744, .inl m_past))] H := hP
        have hD : va_D A [(qm, .inr (6, [.ref qm_w, .ref qm_past, .int m_pastMany, .ref qm_images, .int m_filled, .ref qm_text, .int m_length, .ref qm_may, .ref qm_least, .ref qm_isCarried, .ref qm_list, .ref qm_nodes, .int m_listMany, .int m_went, .int m_cost, .int m_cause, .int m_looks, .int m_isSent, .int m_isOld, .ref qm_kept, .ref qm_keptLow, .ref qm_keptHigh, .int m_keptMany, .ref qm_keptNodes, .ref qm_numbers, .ref qm_sums, .ref qm_commands, .int m_commandMany, .ref qm_held])), (qm_w, .inl (cI, 93, .inl (upd m_w (Int32.toNatClampNeg x2) (m_w (Int32.toNatClampNeg (x2 + (5 : Int32))))))), (qm_past, .inl (cI, 744, .inl m_past))] := hD
        refine lv_iinc (v := (x2 + (1 : Int32))) (lv' := [(2, .int (x2 + (1 : Int32))), (0, .ref qm)]) hx hb dX6_remove_50 hl (k := 1) rfl rfl (by decide) rfl (fun ls hl => ?_)
        refine lv_goto (tgt := 20) hx hb dX6_remove_53 (by decide) ?_
        exact ih20 (x2 + (1 : Int32)) (upd m_w (Int32.toNatClampNeg x2) (m_w (Int32.toNatClampNeg (x2 + (5 : Int32))))) m_past m_pastMany m_isOld _ _ _ hP hD hS (lv_sub hl [1, 0] rfl) h
  refine lv_aload_n hx hb dX6_remove_0 rfl (lv_at hl 0 rfl) ?_
  refine lv_iload_n hx hb dX6_remove_1 rfl (lv_at hl 1 rfl) ?_
  obtain ⟨r_1, hc_2, h⟩ := ob_bind h
  refine k_callVIr (qb := 0) [0, 1] (As := [.int p1]) (rest := []) ⟨hx, hb, hml, hown, hts⟩ hT hZ hA hP hD hS (c_X6_isLink l D cI cZ cN aK aV qm qm_w qm_past qm_images qm_text qm_may qm_least qm_isCarried qm_list qm_nodes qm_kept qm_keptLow qm_keptHigh qm_keptNodes qm_numbers qm_sums qm_commands qm_held m_w m_pastMany m_filled m_length m_listMany m_went m_cost m_cause m_looks m_isSent m_isOld m_keptMany m_commandMany p1 r_1 hc_2) ⟨callB_of 1 hts (k_good u_852) rfl rfl rfl (hu _ u_51) (hu _ u_849) (by decide +kernel) ⟨Nat.le_of_ble_eq_true rfl, Nat.le_of_ble_eq_true rfl⟩, hu _ u_851, hu _ u_25⟩ rfl rfl rfl (by decide) rfl hl.1 rfl (Nat.le_of_ble_eq_true rfl) dX6_remove_2 (fun H locs hP hD hS => ?_)
  refine lv_if_ne (tgt := 10) hx hb dX6_remove_5 (by decide) (fun cc_3 => ?_) (fun cc_3 => ?_)
  · have h := (if_neg cc_3).symm.trans h
    refine lv_aload_n hx hb dX6_remove_10 rfl (lv_at hl 0 rfl) ?_
    obtain ⟨⟨o_4, o_5⟩, hc_6, h⟩ := ob_bind h
    dsimp only at h
    refine k_callVV (qb := 0) [0, 1, 2] [0, 2] [0, 2] [(qm, .inr (6, [.ref qm_w, .ref qm_past, .int o_5, .ref qm_images, .int m_filled, .ref qm_text, .int m_length, .ref qm_may, .ref qm_least, .ref qm_isCarried, .ref qm_list, .ref qm_nodes, .int m_listMany, .int m_went, .int m_cost, .int m_cause, .int m_looks, .int m_isSent, .int m_isOld, .ref qm_kept, .ref qm_keptLow, .ref qm_keptHigh, .int m_keptMany, .ref qm_keptNodes, .ref qm_numbers, .ref qm_sums, .ref qm_commands, .int m_commandMany, .ref qm_held])), (qm_past, .inl (cI, 744, .inl o_4))] (As := []) (rest := []) ⟨hx, hb, hml, hown, hts⟩ hT hZ hA hP hD hS (c_X6_remember l D cI cZ cN aK aV qm qm_w qm_past qm_images qm_text qm_may qm_least qm_isCarried qm_list qm_nodes qm_kept qm_keptLow qm_keptHigh qm_keptNodes qm_numbers qm_sums qm_commands qm_held m_w m_past m_pastMany m_filled m_length m_listMany m_went m_cost m_cause m_looks m_isSent m_isOld m_keptMany m_commandMany o_4 o_5 hc_6) ⟨callB_of 0 hts (k_good u_816) rfl rfl rfl (hu _ u_51) (hu _ u_813) (by decide +kernel) ⟨Nat.le_of_ble_eq_true rfl, Nat.le_of_ble_eq_true rfl⟩, hu _ u_815, hu _ u_18⟩ rfl rfl rfl (by decide) (by decide) (by decide) rfl rfl rfl rfl hl.1 rfl (Nat.le_of_ble_eq_true rfl) dX6_remove_11 (fun H locs hP hD hS => ?_)
    have hP : va_P D vwCl [(qm, .inr (6, [.ref qm_w, .ref qm_past, .int o_5, .ref qm_images, .int m_filled, .ref qm_text, .int m_length, .ref qm_may, .ref qm_least, .ref qm_isCarried, .ref qm_list, .ref qm_nodes, .int m_listMany, .int m_went, .int m_cost, .int m_cause, .int m_looks, .int m_isSent, .int m_isOld, .ref qm_kept, .ref qm_keptLow, .ref qm_keptHigh, .int m_keptMany, .ref qm_keptNodes, .ref qm_numbers, .ref qm_sums, .ref qm_commands, .int m_commandMany, .ref qm_held])), (qm_w, .inl (cI, 93, .inl m_w)), (qm_past, .inl (cI, 744, .inl o_4))] H := hP
    have hD : va_D A [(qm, .inr (6, [.ref qm_w, .ref qm_past, .int o_5, .ref qm_images, .int m_filled, .ref qm_text, .int m_length, .ref qm_may, .ref qm_least, .ref qm_isCarried, .ref qm_list, .ref qm_nodes, .int m_listMany, .int m_went, .int m_cost, .int m_cause, .int m_looks, .int m_isSent, .int m_isOld, .ref qm_kept, .ref qm_keptLow, .ref qm_keptHigh, .int m_keptMany, .ref qm_keptNodes, .ref qm_numbers, .ref qm_sums, .ref qm_commands, .int m_commandMany, .ref qm_held])), (qm_w, .inl (cI, 93, .inl m_w)), (qm_past, .inl (cI, 744, .inl o_4))] := hD
    refine lv_iconst (v := (3 : Int32)) hx hb dX6_remove_14 (by decide) ?_
    refine lv_iconst (v := (5 : Int32)) hx hb dX6_remove_15 (by decide) ?_
    refine lv_iload_n hx hb dX6_remove_16 rfl (lv_at hl 1 rfl) ?_
    refine lv_imul hx hb dX6_remove_17 ?_
    refine lv_iadd hx hb dX6_remove_18 ?_
    refine lv_istore_n (lv' := [(2, .int ((3 : Int32) + ((5 : Int32) * p1))), (0, .ref qm), (1, .int p1)]) hx hb dX6_remove_19 rfl hl (by decide) rfl (fun ls hl => ?_)
    exact w20 1000 ((3 : Int32) + ((5 : Int32) * p1)) m_w o_4 o_5 m_isOld _ _ _ hP hD hS (lv_sub hl [1, 0] rfl) h
  · have h := (if_pos cc_3).symm.trans h
    refine lv_iconst (v := (-1 : Int32)) hx hb dX6_remove_8 (by decide) ?_
    have hq := Option.some.inj h
    clear h
    obtain ⟨e0, hq0⟩ := Prod.mk.inj hq
    clear hq
    obtain ⟨e1, hq1⟩ := Prod.mk.inj hq0
    clear hq0
    obtain ⟨e2, hq2⟩ := Prod.mk.inj hq1
    clear hq1
    obtain ⟨e3, hq3⟩ := Prod.mk.inj hq2
    clear hq2
    subst e0
    subst e1
    subst e2
    subst e3
    subst hq3
    exact k_retI hx hb hr hlocks hP hD hS dX6_remove_9
def f_X6_change (p1 : Int32) (p2 : Int32) (p3 : Int32) (m_w : (Nat → Int32)) (m_past : (Nat → Int32)) (m_pastMany : Int32) : Option (Int32 × (Nat → Int32) × (Nat → Int32) × Int32) :=
  (f_X6_isLink p1 m_w).bind fun r_1 =>
  if r_1 = (0 : Int32) then
    some ((-1 : Int32), m_w, m_past, m_pastMany)
  else
    if (f_X6_isIn p3 (0 : Int32) (1 : Int32)) = (0 : Int32) then
      some ((-1 : Int32), m_w, m_past, m_pastMany)
    else
      (f_X6_remember m_w m_past m_pastMany).bind fun ⟨o_5, o_6⟩ =>
      (f_X6_of p1 p2 m_w).bind fun r_8 =>
      if inb (((3 : Int32) + ((5 : Int32) * p1)) + p2) 93 = true then
      some (r_8, (upd m_w (Int32.toNatClampNeg (((3 : Int32) + ((5 : Int32) * p1)) + p2)) p3), o_5, o_6)
      else none
set_option maxHeartbeats 4000000 in
set_option maxRecDepth 100000 in
theorem c_X6_change (l : Launch) (D : va_G) (cI cZ cN : ClassId) (aK aV : Nat → Nat)  (qm : Nat) (qm_w : Nat) (qm_past : Nat) (qm_images : Nat) (qm_text : Nat) (qm_may : Nat) (qm_least : Nat) (qm_isCarried : Nat) (qm_list : Nat) (qm_nodes : Nat) (qm_kept : Nat) (qm_keptLow : Nat) (qm_keptHigh : Nat) (qm_keptNodes : Nat) (qm_numbers : Nat) (qm_sums : Nat) (qm_commands : Nat) (qm_held : Nat) (m_w : (Nat → Int32)) (m_past : (Nat → Int32)) (m_pastMany : Int32) (m_filled : Int32) (m_length : Int32) (m_listMany : Int32) (m_went : Int32) (m_cost : Int32) (m_cause : Int32) (m_looks : Int32) (m_isSent : Int32) (m_isOld : Int32) (m_keptMany : Int32) (m_commandMany : Int32) (p1 p2 p3 : Int32) (r : Int32) (z_m_w : (Nat → Int32)) (z_m_past : (Nat → Int32)) (z_m_pastMany : Int32) (h : f_X6_change p1 p2 p3 m_w m_past m_pastMany = some (r, z_m_w, z_m_past, z_m_pastMany)) : CtI l D cI cZ cN aK aV yX6_change (k_W yX6_change cX6_change 5 (some .int)) { frames := 2, cells := 0, slots := 0, locals := 43 } [.ref qm, .int p1, .int p2, .int p3] [(qm, .inr (6, [.ref qm_w, .ref qm_past, .int m_pastMany, .ref qm_images, .int m_filled, .ref qm_text, .int m_length, .ref qm_may, .ref qm_least, .ref qm_isCarried, .ref qm_list, .ref qm_nodes, .int m_listMany, .int m_went, .int m_cost, .int m_cause, .int m_looks, .int m_isSent, .int m_isOld, .ref qm_kept, .ref qm_keptLow, .ref qm_keptHigh, .int m_keptMany, .ref qm_keptNodes, .ref qm_numbers, .ref qm_sums, .ref qm_commands, .int m_commandMany, .ref qm_held])), (qm_w, .inl (cI, 93, .inl m_w)), (qm_past, .inl (cI, 744, .inl m_past))] r [(qm, .inr (6, [.ref qm_w, .ref qm_past, .int z_m_pastMany, .ref qm_images, .int m_filled, .ref qm_text, .int m_length, .ref qm_may, .ref qm_least, .ref qm_isCarried, .ref qm_list, .ref qm_nodes, .int m_listMany, .int m_went, .int m_cost, .int m_cause, .int m_looks, .int m_isSent, .int m_isOld, .ref qm_kept, .ref qm_keptLow, .ref qm_keptHigh, .int m_keptMany, .ref qm_keptNodes, .ref qm_numbers, .ref qm_sums, .ref qm_commands, .int m_commandMany, .ref qm_held])), (qm_w, .inl (cI, 93, .inl z_m_w)), (qm_past, .inl (cI, 744, .inl z_m_past))] := by
  refine k_startI (by decide) (Nat.le_of_ble_eq_true rfl) ?_
  intro p e s m below meth c A ls hx hb hr hml hown hts hlocks hT hZ hA hP hD hS hl
  have hK := hT.1
  have hu : ∀ w ∈ k_U, w.before ([.ref qm, .int p1, .int p2, .int p3] : List Value).toArray s = true := fun w h => hts w (List.mem_cons_of_mem _ h)
  have hown : s.vm.findClass RX6 = some m.cls := hown
  have hl : lv_has ls 5 [(0, .ref qm), (1, .int p1), (2, .int p2), (3, .int p3)] := hl
  unfold f_X6_change at h
  refine lv_aload_n hx hb dX6_change_0 rfl (lv_at hl 0 rfl) ?_
  refine lv_iload_n hx hb dX6_change_1 rfl (lv_at hl 1 rfl) ?_
  obtain ⟨r_1, hc_2, h⟩ := ob_bind h
  refine k_callVIr (qb := 0) [0, 1] (As := [.int p1]) (rest := []) ⟨hx, hb, hml, hown, hts⟩ hT hZ hA hP hD hS (c_X6_isLink l D cI cZ cN aK aV qm qm_w qm_past qm_images qm_text qm_may qm_least qm_isCarried qm_list qm_nodes qm_kept qm_keptLow qm_keptHigh qm_keptNodes qm_numbers qm_sums qm_commands qm_held m_w m_pastMany m_filled m_length m_listMany m_went m_cost m_cause m_looks m_isSent m_isOld m_keptMany m_commandMany p1 r_1 hc_2) ⟨callB_of 1 hts (k_good u_852) rfl rfl rfl (hu _ u_51) (hu _ u_849) (by decide +kernel) ⟨Nat.le_of_ble_eq_true rfl, Nat.le_of_ble_eq_true rfl⟩, hu _ u_851, hu _ u_25⟩ rfl rfl rfl (by decide) rfl hl.1 rfl (Nat.le_of_ble_eq_true rfl) dX6_change_2 (fun H locs hP hD hS => ?_)
  refine lv_if_eq (tgt := 17) hx hb dX6_change_5 (by decide) (fun cc_3 => ?_) (fun cc_3 => ?_)
  · have h := (if_pos cc_3).symm.trans h
    refine lv_iconst (v := (-1 : Int32)) hx hb dX6_change_17 (by decide) ?_
    have hq := Option.some.inj h
    clear h
    obtain ⟨e0, hq0⟩ := Prod.mk.inj hq
    clear hq
    obtain ⟨e1, hq1⟩ := Prod.mk.inj hq0
    clear hq0
    obtain ⟨e2, hq2⟩ := Prod.mk.inj hq1
    clear hq1
    subst e0
    subst e1
    subst e2
    subst hq2
    exact k_retI hx hb hr hlocks hP hD hS dX6_change_18
  · have h := (if_neg cc_3).symm.trans h
    refine lv_iload_n hx hb dX6_change_8 rfl (lv_at hl 3 rfl) ?_
    refine lv_iconst (v := (0 : Int32)) hx hb dX6_change_9 (by decide) ?_
    refine lv_iconst (v := (1 : Int32)) hx hb dX6_change_10 (by decide) ?_
    refine k_call0 (As := [.int p3, .int (0 : Int32), .int (1 : Int32)]) (rest := []) ⟨hx, hb, hml, hown, hts⟩ hT hZ hA hP hD hS (c_X6_isIn l D cI cZ cN aK aV p3 (0 : Int32) (1 : Int32) _ rfl) ⟨callB_of 3 hts (k_good u_812) rfl rfl rfl (hu _ u_51) (hu _ u_810) (by decide +kernel) ⟨Nat.le_of_ble_eq_true rfl, Nat.le_of_ble_eq_true rfl⟩, hu _ u_811⟩ rfl hl.1 rfl (Nat.le_of_ble_eq_true rfl) dX6_change_11 (fun H locs hP hD hS => ?_)
    refine lv_if_ne (tgt := 19) hx hb dX6_change_14 (by decide) (fun cc_4 => ?_) (fun cc_4 => ?_)
    · have h := (if_neg cc_4).symm.trans h
      refine lv_aload_n hx hb dX6_change_19 rfl (lv_at hl 0 rfl) ?_
      obtain ⟨⟨o_5, o_6⟩, hc_7, h⟩ := ob_bind h
      dsimp only at h
      refine k_callVV (qb := 0) [0, 1, 2] [0, 2] [0, 2] [(qm, .inr (6, [.ref qm_w, .ref qm_past, .int o_6, .ref qm_images, .int m_filled, .ref qm_text, .int m_length, .ref qm_may, .ref qm_least, .ref qm_isCarried, .ref qm_list, .ref qm_nodes, .int m_listMany, .int m_went, .int m_cost, .int m_cause, .int m_looks, .int m_isSent, .int m_isOld, .ref qm_kept, .ref qm_keptLow, .ref qm_keptHigh, .int m_keptMany, .ref qm_keptNodes, .ref qm_numbers, .ref qm_sums, .ref qm_commands, .int m_commandMany, .ref qm_held])), (qm_past, .inl (cI, 744, .inl o_5))] (As := []) (rest := []) ⟨hx, hb, hml, hown, hts⟩ hT hZ hA hP hD hS (c_X6_remember l D cI cZ cN aK aV qm qm_w qm_past qm_images qm_text qm_may qm_least qm_isCarried qm_list qm_nodes qm_kept qm_keptLow qm_keptHigh qm_keptNodes qm_numbers qm_sums qm_commands qm_held m_w m_past m_pastMany m_filled m_length m_listMany m_went m_cost m_cause m_looks m_isSent m_isOld m_keptMany m_commandMany o_5 o_6 hc_7) ⟨callB_of 0 hts (k_good u_816) rfl rfl rfl (hu _ u_51) (hu _ u_813) (by decide +kernel) ⟨Nat.le_of_ble_eq_true rfl, Nat.le_of_ble_eq_true rfl⟩, hu _ u_815, hu _ u_18⟩ rfl rfl rfl (by decide) (by decide) (by decide) rfl rfl rfl rfl hl.1 rfl (Nat.le_of_ble_eq_true rfl) dX6_change_20 (fun H locs hP hD hS => ?_)
      have hP : va_P D vwCl [(qm, .inr (6, [.ref qm_w, .ref qm_past, .int o_6, .ref qm_images, .int m_filled, .ref qm_text, .int m_length, .ref qm_may, .ref qm_least, .ref qm_isCarried, .ref qm_list, .ref qm_nodes, .int m_listMany, .int m_went, .int m_cost, .int m_cause, .int m_looks, .int m_isSent, .int m_isOld, .ref qm_kept, .ref qm_keptLow, .ref qm_keptHigh, .int m_keptMany, .ref qm_keptNodes, .ref qm_numbers, .ref qm_sums, .ref qm_commands, .int m_commandMany, .ref qm_held])), (qm_w, .inl (cI, 93, .inl m_w)), (qm_past, .inl (cI, 744, .inl o_5))] H := hP
      have hD : va_D A [(qm, .inr (6, [.ref qm_w, .ref qm_past, .int o_6, .ref qm_images, .int m_filled, .ref qm_text, .int m_length, .ref qm_may, .ref qm_least, .ref qm_isCarried, .ref qm_list, .ref qm_nodes, .int m_listMany, .int m_went, .int m_cost, .int m_cause, .int m_looks, .int m_isSent, .int m_isOld, .ref qm_kept, .ref qm_keptLow, .ref qm_keptHigh, .int m_keptMany, .ref qm_keptNodes, .ref qm_numbers, .ref qm_sums, .ref qm_commands, .int m_commandMany, .ref qm_held])), (qm_w, .inl (cI, 93, .inl m_w)), (qm_past, .inl (cI, 744, .inl o_5))] := hD
      refine lv_aload_n hx hb dX6_change_23 rfl (lv_at hl 0 rfl) ?_
      refine lv_iload_n hx hb dX6_change_24 rfl (lv_at hl 1 rfl) ?_
      refine lv_iload_n hx hb dX6_change_25 rfl (lv_at hl 2 rfl) ?_
      obtain ⟨r_8, hc_9, h⟩ := ob_bind h
      refine k_callVIr (qb := 0) [0, 1] (As := [.int p1, .int p2]) (rest := []) ⟨hx, hb, hml, hown, hts⟩ hT hZ hA hP hD hS (c_X6_of l D cI cZ cN aK aV qm qm_w qm_past qm_images qm_text qm_may qm_least qm_isCarried qm_list qm_nodes qm_kept qm_keptLow qm_keptHigh qm_keptNodes qm_numbers qm_sums qm_commands qm_held m_w o_6 m_filled m_length m_listMany m_went m_cost m_cause m_looks m_isSent m_isOld m_keptMany m_commandMany p1 p2 r_8 hc_9) ⟨callB_of 2 hts (k_good u_840) rfl rfl rfl (hu _ u_51) (hu _ u_837) (by decide +kernel) ⟨Nat.le_of_ble_eq_true rfl, Nat.le_of_ble_eq_true rfl⟩, hu _ u_839, hu _ u_23⟩ rfl rfl rfl (by decide) rfl hl.1 rfl (Nat.le_of_ble_eq_true rfl) dX6_change_26 (fun H locs hP hD hS => ?_)
      refine lv_istore (lv' := [(4, .int r_8), (0, .ref qm), (1, .int p1), (2, .int p2), (3, .int p3)]) hx hb dX6_change_29 hl (by decide) rfl (fun ls hl => ?_)
      refine lv_aload_n hx hb dX6_change_31 rfl (lv_at hl 1 rfl) ?_
      refine va_get (D := D) (ci := 6) (v := .ref qm_w) (C := RX6) (T := TX6) (N := 29) hx hb hu k_iX6 hown hK hP 0 rfl rfl 0 (by decide) (hu _ u_718) (fun _ h9 => h9) rfl dX6_change_32 ?_
      refine lv_iconst (v := (3 : Int32)) hx hb dX6_change_35 (by decide) ?_
      refine lv_iconst (v := (5 : Int32)) hx hb dX6_change_36 (by decide) ?_
      refine lv_iload_n hx hb dX6_change_37 rfl (lv_at hl 2 rfl) ?_
      refine lv_imul hx hb dX6_change_38 ?_
      refine lv_iadd hx hb dX6_change_39 ?_
      refine lv_iload_n hx hb dX6_change_40 rfl (lv_at hl 3 rfl) ?_
      refine lv_iadd hx hb dX6_change_41 ?_
      refine lv_iload_n hx hb dX6_change_42 rfl (lv_at hl 4 rfl) ?_
      obtain ⟨hin_10, h⟩ := ob_if h
      have hin_10 := inb_in hin_10
      refine va_iast (D := D) hx hb hK hP hD hS 1 0 rfl rfl hin_10 dX6_change_43 (fun H locs hP hD hS => ?_)
      have hP : va_P D vwCl [(qm, .inr (6, [.ref qm_w, .ref qm_past, .int o_6, .ref qm_images, .int m_filled, .ref qm_text, .int m_length, .ref qm_may, .ref qm_least, .ref qm_isCarried, .ref qm_list, .ref qm_nodes, .int m_listMany, .int m_went, .int m_cost, .int m_cause, .int m_looks, .int m_isSent, .int m_isOld, .ref qm_kept, .ref qm_keptLow, .ref qm_keptHigh, .int m_keptMany, .ref qm_keptNodes, .ref qm_numbers, .ref qm_sums, .ref qm_commands, .int m_commandMany, .ref qm_held])), (qm_w, .inl (cI, 93, .inl (upd m_w (Int32.toNatClampNeg (((3 : Int32) + ((5 : Int32) * p1)) + p2)) p3))), (qm_past, .inl (cI, 744, .inl o_5))] H := hP
      have hD : va_D A [(qm, .inr (6, [.ref qm_w, .ref qm_past, .int o_6, .ref qm_images, .int m_filled, .ref qm_text, .int m_length, .ref qm_may, .ref qm_least, .ref qm_isCarried, .ref qm_list, .ref qm_nodes, .int m_listMany, .int m_went, .int m_cost, .int m_cause, .int m_looks, .int m_isSent, .int m_isOld, .ref qm_kept, .ref qm_keptLow, .ref qm_keptHigh, .int m_keptMany, .ref qm_keptNodes, .ref qm_numbers, .ref qm_sums, .ref qm_commands, .int m_commandMany, .ref qm_held])), (qm_w, .inl (cI, 93, .inl (upd m_w (Int32.toNatClampNeg (((3 : Int32) + ((5 : Int32) * p1)) + p2)) p3))), (qm_past, .inl (cI, 744, .inl o_5))] := hD
      refine lv_iload hx hb dX6_change_44 (lv_at hl 0 rfl) ?_
      have hq := Option.some.inj h
      clear h
      obtain ⟨e0, hq0⟩ := Prod.mk.inj hq
      clear hq
      obtain ⟨e1, hq1⟩ := Prod.mk.inj hq0
      clear hq0
      obtain ⟨e2, hq2⟩ := Prod.mk.inj hq1
      clear hq1
      subst e0
      subst e1
      subst e2
      subst hq2
      exact k_retI hx hb hr hlocks hP hD hS dX6_change_46
    · have h := (if_pos cc_4).symm.trans h
      refine lv_iconst (v := (-1 : Int32)) hx hb dX6_change_17 (by decide) ?_
      have hq := Option.some.inj h
      clear h
      obtain ⟨e0, hq0⟩ := Prod.mk.inj hq
      clear hq
      obtain ⟨e1, hq1⟩ := Prod.mk.inj hq0
      clear hq0
      obtain ⟨e2, hq2⟩ := Prod.mk.inj hq1
      clear hq1
      subst e0
      subst e1
      subst e2
      subst hq2
      exact k_retI hx hb hr hlocks hP hD hS dX6_change_18
def f_X6_turn (p1 : Int32) (p2 : Int32) (m_w : (Nat → Int32)) (m_past : (Nat → Int32)) (m_pastMany : Int32) : Option (Int32 × (Nat → Int32) × (Nat → Int32) × Int32) :=
  (f_X6_change p1 (3 : Int32) p2 m_w m_past m_pastMany).bind fun ⟨r_1, o_2, o_3, o_4⟩ =>
  some (r_1, o_2, o_3, o_4)
set_option maxHeartbeats 4000000 in
set_option maxRecDepth 100000 in
theorem c_X6_turn (l : Launch) (D : va_G) (cI cZ cN : ClassId) (aK aV : Nat → Nat)  (qm : Nat) (qm_w : Nat) (qm_past : Nat) (qm_images : Nat) (qm_text : Nat) (qm_may : Nat) (qm_least : Nat) (qm_isCarried : Nat) (qm_list : Nat) (qm_nodes : Nat) (qm_kept : Nat) (qm_keptLow : Nat) (qm_keptHigh : Nat) (qm_keptNodes : Nat) (qm_numbers : Nat) (qm_sums : Nat) (qm_commands : Nat) (qm_held : Nat) (m_w : (Nat → Int32)) (m_past : (Nat → Int32)) (m_pastMany : Int32) (m_filled : Int32) (m_length : Int32) (m_listMany : Int32) (m_went : Int32) (m_cost : Int32) (m_cause : Int32) (m_looks : Int32) (m_isSent : Int32) (m_isOld : Int32) (m_keptMany : Int32) (m_commandMany : Int32) (p1 p2 : Int32) (r : Int32) (z_m_w : (Nat → Int32)) (z_m_past : (Nat → Int32)) (z_m_pastMany : Int32) (h : f_X6_turn p1 p2 m_w m_past m_pastMany = some (r, z_m_w, z_m_past, z_m_pastMany)) : CtI l D cI cZ cN aK aV yX6_turn (k_W yX6_turn cX6_turn 3 (some .int)) { frames := 3, cells := 0, slots := 0, locals := 67 } [.ref qm, .int p1, .int p2] [(qm, .inr (6, [.ref qm_w, .ref qm_past, .int m_pastMany, .ref qm_images, .int m_filled, .ref qm_text, .int m_length, .ref qm_may, .ref qm_least, .ref qm_isCarried, .ref qm_list, .ref qm_nodes, .int m_listMany, .int m_went, .int m_cost, .int m_cause, .int m_looks, .int m_isSent, .int m_isOld, .ref qm_kept, .ref qm_keptLow, .ref qm_keptHigh, .int m_keptMany, .ref qm_keptNodes, .ref qm_numbers, .ref qm_sums, .ref qm_commands, .int m_commandMany, .ref qm_held])), (qm_w, .inl (cI, 93, .inl m_w)), (qm_past, .inl (cI, 744, .inl m_past))] r [(qm, .inr (6, [.ref qm_w, .ref qm_past, .int z_m_pastMany, .ref qm_images, .int m_filled, .ref qm_text, .int m_length, .ref qm_may, .ref qm_least, .ref qm_isCarried, .ref qm_list, .ref qm_nodes, .int m_listMany, .int m_went, .int m_cost, .int m_cause, .int m_looks, .int m_isSent, .int m_isOld, .ref qm_kept, .ref qm_keptLow, .ref qm_keptHigh, .int m_keptMany, .ref qm_keptNodes, .ref qm_numbers, .ref qm_sums, .ref qm_commands, .int m_commandMany, .ref qm_held])), (qm_w, .inl (cI, 93, .inl z_m_w)), (qm_past, .inl (cI, 744, .inl z_m_past))] := by
  refine k_startI (by decide) (Nat.le_of_ble_eq_true rfl) ?_
  intro p e s m below meth c A ls hx hb hr hml hown hts hlocks hT hZ hA hP hD hS hl
  have hK := hT.1
  have hu : ∀ w ∈ k_U, w.before ([.ref qm, .int p1, .int p2] : List Value).toArray s = true := fun w h => hts w (List.mem_cons_of_mem _ h)
  have hown : s.vm.findClass RX6 = some m.cls := hown
  have hl : lv_has ls 3 [(0, .ref qm), (1, .int p1), (2, .int p2)] := hl
  unfold f_X6_turn at h
  refine lv_aload_n hx hb dX6_turn_0 rfl (lv_at hl 0 rfl) ?_
  refine lv_iload_n hx hb dX6_turn_1 rfl (lv_at hl 1 rfl) ?_
  refine lv_iconst (v := (3 : Int32)) hx hb dX6_turn_2 (by decide) ?_
  refine lv_iload_n hx hb dX6_turn_3 rfl (lv_at hl 2 rfl) ?_
  obtain ⟨⟨r_1, o_2, o_3, o_4⟩, hc_5, h⟩ := ob_bind h
  dsimp only at h
  refine k_callVI (qb := 0) [0, 1, 2] [0, 1, 2] [0, 1, 2] [(qm, .inr (6, [.ref qm_w, .ref qm_past, .int o_4, .ref qm_images, .int m_filled, .ref qm_text, .int m_length, .ref qm_may, .ref qm_least, .ref qm_isCarried, .ref qm_list, .ref qm_nodes, .int m_listMany, .int m_went, .int m_cost, .int m_cause, .int m_looks, .int m_isSent, .int m_isOld, .ref qm_kept, .ref qm_keptLow, .ref qm_keptHigh, .int m_keptMany, .ref qm_keptNodes, .ref qm_numbers, .ref qm_sums, .ref qm_commands, .int m_commandMany, .ref qm_held])), (qm_w, .inl (cI, 93, .inl o_2)), (qm_past, .inl (cI, 744, .inl o_3))] (As := [.int p1, .int (3 : Int32), .int p2]) (rest := []) ⟨hx, hb, hml, hown, hts⟩ hT hZ hA hP hD hS (c_X6_change l D cI cZ cN aK aV qm qm_w qm_past qm_images qm_text qm_may qm_least qm_isCarried qm_list qm_nodes qm_kept qm_keptLow qm_keptHigh qm_keptNodes qm_numbers qm_sums qm_commands qm_held m_w m_past m_pastMany m_filled m_length m_listMany m_went m_cost m_cause m_looks m_isSent m_isOld m_keptMany m_commandMany p1 (3 : Int32) p2 r_1 o_2 o_3 o_4 hc_5) ⟨callB_of 3 hts (k_good u_860) rfl rfl rfl (hu _ u_51) (hu _ u_857) (by decide +kernel) ⟨Nat.le_of_ble_eq_true rfl, Nat.le_of_ble_eq_true rfl⟩, hu _ u_859, hu _ u_26⟩ rfl rfl rfl (by decide) (by decide) (by decide) rfl rfl rfl rfl hl.1 rfl (Nat.le_of_ble_eq_true rfl) dX6_turn_4 (fun H locs hP hD hS => ?_)
  have hP : va_P D vwCl [(qm, .inr (6, [.ref qm_w, .ref qm_past, .int o_4, .ref qm_images, .int m_filled, .ref qm_text, .int m_length, .ref qm_may, .ref qm_least, .ref qm_isCarried, .ref qm_list, .ref qm_nodes, .int m_listMany, .int m_went, .int m_cost, .int m_cause, .int m_looks, .int m_isSent, .int m_isOld, .ref qm_kept, .ref qm_keptLow, .ref qm_keptHigh, .int m_keptMany, .ref qm_keptNodes, .ref qm_numbers, .ref qm_sums, .ref qm_commands, .int m_commandMany, .ref qm_held])), (qm_w, .inl (cI, 93, .inl o_2)), (qm_past, .inl (cI, 744, .inl o_3))] H := hP
  have hD : va_D A [(qm, .inr (6, [.ref qm_w, .ref qm_past, .int o_4, .ref qm_images, .int m_filled, .ref qm_text, .int m_length, .ref qm_may, .ref qm_least, .ref qm_isCarried, .ref qm_list, .ref qm_nodes, .int m_listMany, .int m_went, .int m_cost, .int m_cause, .int m_looks, .int m_isSent, .int m_isOld, .ref qm_kept, .ref qm_keptLow, .ref qm_keptHigh, .int m_keptMany, .ref qm_keptNodes, .ref qm_numbers, .ref qm_sums, .ref qm_commands, .int m_commandMany, .ref qm_held])), (qm_w, .inl (cI, 93, .inl o_2)), (qm_past, .inl (cI, 744, .inl o_3))] := hD
  have hq := Option.some.inj h
  clear h
  obtain ⟨e0, hq0⟩ := Prod.mk.inj hq
  clear hq
  obtain ⟨e1, hq1⟩ := Prod.mk.inj hq0
  clear hq0
  obtain ⟨e2, hq2⟩ := Prod.mk.inj hq1
  clear hq1
  subst e0
  subst e1
  subst e2
  subst hq2
  exact k_retI hx hb hr hlocks hP hD hS dX6_turn_7
def f_X6_know (p1 : Int32) (p2 : Int32) (m_w : (Nat → Int32)) (m_past : (Nat → Int32)) (m_pastMany : Int32) : Option (Int32 × (Nat → Int32) × (Nat → Int32) × Int32) :=
  (f_X6_change p1 (4 : Int32) p2 m_w m_past m_pastMany).bind fun ⟨r_1, o_2, o_3, o_4⟩ =>
  some (r_1, o_2, o_3, o_4)
set_option maxHeartbeats 4000000 in
set_option maxRecDepth 100000 in
theorem c_X6_know (l : Launch) (D : va_G) (cI cZ cN : ClassId) (aK aV : Nat → Nat)  (qm : Nat) (qm_w : Nat) (qm_past : Nat) (qm_images : Nat) (qm_text : Nat) (qm_may : Nat) (qm_least : Nat) (qm_isCarried : Nat) (qm_list : Nat) (qm_nodes : Nat) (qm_kept : Nat) (qm_keptLow : Nat) (qm_keptHigh : Nat) (qm_keptNodes : Nat) (qm_numbers : Nat) (qm_sums : Nat) (qm_commands : Nat) (qm_held : Nat) (m_w : (Nat → Int32)) (m_past : (Nat → Int32)) (m_pastMany : Int32) (m_filled : Int32) (m_length : Int32) (m_listMany : Int32) (m_went : Int32) (m_cost : Int32) (m_cause : Int32) (m_looks : Int32) (m_isSent : Int32) (m_isOld : Int32) (m_keptMany : Int32) (m_commandMany : Int32) (p1 p2 : Int32) (r : Int32) (z_m_w : (Nat → Int32)) (z_m_past : (Nat → Int32)) (z_m_pastMany : Int32) (h : f_X6_know p1 p2 m_w m_past m_pastMany = some (r, z_m_w, z_m_past, z_m_pastMany)) : CtI l D cI cZ cN aK aV yX6_know (k_W yX6_know cX6_know 3 (some .int)) { frames := 3, cells := 0, slots := 0, locals := 67 } [.ref qm, .int p1, .int p2] [(qm, .inr (6, [.ref qm_w, .ref qm_past, .int m_pastMany, .ref qm_images, .int m_filled, .ref qm_text, .int m_length, .ref qm_may, .ref qm_least, .ref qm_isCarried, .ref qm_list, .ref qm_nodes, .int m_listMany, .int m_went, .int m_cost, .int m_cause, .int m_looks, .int m_isSent, .int m_isOld, .ref qm_kept, .ref qm_keptLow, .ref qm_keptHigh, .int m_keptMany, .ref qm_keptNodes, .ref qm_numbers, .ref qm_sums, .ref qm_commands, .int m_commandMany, .ref qm_held])), (qm_w, .inl (cI, 93, .inl m_w)), (qm_past, .inl (cI, 744, .inl m_past))] r [(qm, .inr (6, [.ref qm_w, .ref qm_past, .int z_m_pastMany, .ref qm_images, .int m_filled, .ref qm_text, .int m_length, .ref qm_may, .ref qm_least, .ref qm_isCarried, .ref qm_list, .ref qm_nodes, .int m_listMany, .int m_went, .int m_cost, .int m_cause, .int m_looks, .int m_isSent, .int m_isOld, .ref qm_kept, .ref qm_keptLow, .ref qm_keptHigh, .int m_keptMany, .ref qm_keptNodes, .ref qm_numbers, .ref qm_sums, .ref qm_commands, .int m_commandMany, .ref qm_held])), (qm_w, .inl (cI, 93, .inl z_m_w)), (qm_past, .inl (cI, 744, .inl z_m_past))] := by
  refine k_startI (by decide) (Nat.le_of_ble_eq_true rfl) ?_
  intro p e s m below meth c A ls hx hb hr hml hown hts hlocks hT hZ hA hP hD hS hl
  have hK := hT.1
  have hu : ∀ w ∈ k_U, w.before ([.ref qm, .int p1, .int p2] : List Value).toArray s = true := fun w h => hts w (List.mem_cons_of_mem _ h)
  have hown : s.vm.findClass RX6 = some m.cls := hown
  have hl : lv_has ls 3 [(0, .ref qm), (1, .int p1), (2, .int p2)] := hl
  unfold f_X6_know at h
  refine lv_aload_n hx hb dX6_know_0 rfl (lv_at hl 0 rfl) ?_
  refine lv_iload_n hx hb dX6_know_1 rfl (lv_at hl 1 rfl) ?_
  refine lv_iconst (v := (4 : Int32)) hx hb dX6_know_2 (by decide) ?_
  refine lv_iload_n hx hb dX6_know_3 rfl (lv_at hl 2 rfl) ?_
  obtain ⟨⟨r_1, o_2, o_3, o_4⟩, hc_5, h⟩ := ob_bind h
  dsimp only at h
  refine k_callVI (qb := 0) [0, 1, 2] [0, 1, 2] [0, 1, 2] [(qm, .inr (6, [.ref qm_w, .ref qm_past, .int o_4, .ref qm_images, .int m_filled, .ref qm_text, .int m_length, .ref qm_may, .ref qm_least, .ref qm_isCarried, .ref qm_list, .ref qm_nodes, .int m_listMany, .int m_went, .int m_cost, .int m_cause, .int m_looks, .int m_isSent, .int m_isOld, .ref qm_kept, .ref qm_keptLow, .ref qm_keptHigh, .int m_keptMany, .ref qm_keptNodes, .ref qm_numbers, .ref qm_sums, .ref qm_commands, .int m_commandMany, .ref qm_held])), (qm_w, .inl (cI, 93, .inl o_2)), (qm_past, .inl (cI, 744, .inl o_3))] (As := [.int p1, .int (4 : Int32), .int p2]) (rest := []) ⟨hx, hb, hml, hown, hts⟩ hT hZ hA hP hD hS (c_X6_change l D cI cZ cN aK aV qm qm_w qm_past qm_images qm_text qm_may qm_least qm_isCarried qm_list qm_nodes qm_kept qm_keptLow qm_keptHigh qm_keptNodes qm_numbers qm_sums qm_commands qm_held m_w m_past m_pastMany m_filled m_length m_listMany m_went m_cost m_cause m_looks m_isSent m_isOld m_keptMany m_commandMany p1 (4 : Int32) p2 r_1 o_2 o_3 o_4 hc_5) ⟨callB_of 3 hts (k_good u_860) rfl rfl rfl (hu _ u_51) (hu _ u_857) (by decide +kernel) ⟨Nat.le_of_ble_eq_true rfl, Nat.le_of_ble_eq_true rfl⟩, hu _ u_859, hu _ u_26⟩ rfl rfl rfl (by decide) (by decide) (by decide) rfl rfl rfl rfl hl.1 rfl (Nat.le_of_ble_eq_true rfl) dX6_know_4 (fun H locs hP hD hS => ?_)
  have hP : va_P D vwCl [(qm, .inr (6, [.ref qm_w, .ref qm_past, .int o_4, .ref qm_images, .int m_filled, .ref qm_text, .int m_length, .ref qm_may, .ref qm_least, .ref qm_isCarried, .ref qm_list, .ref qm_nodes, .int m_listMany, .int m_went, .int m_cost, .int m_cause, .int m_looks, .int m_isSent, .int m_isOld, .ref qm_kept, .ref qm_keptLow, .ref qm_keptHigh, .int m_keptMany, .ref qm_keptNodes, .ref qm_numbers, .ref qm_sums, .ref qm_commands, .int m_commandMany, .ref qm_held])), (qm_w, .inl (cI, 93, .inl o_2)), (qm_past, .inl (cI, 744, .inl o_3))] H := hP
  have hD : va_D A [(qm, .inr (6, [.ref qm_w, .ref qm_past, .int o_4, .ref qm_images, .int m_filled, .ref qm_text, .int m_length, .ref qm_may, .ref qm_least, .ref qm_isCarried, .ref qm_list, .ref qm_nodes, .int m_listMany, .int m_went, .int m_cost, .int m_cause, .int m_looks, .int m_isSent, .int m_isOld, .ref qm_kept, .ref qm_keptLow, .ref qm_keptHigh, .int m_keptMany, .ref qm_keptNodes, .ref qm_numbers, .ref qm_sums, .ref qm_commands, .int m_commandMany, .ref qm_held])), (qm_w, .inl (cI, 93, .inl o_2)), (qm_past, .inl (cI, 744, .inl o_3))] := hD
  have hq := Option.some.inj h
  clear h
  obtain ⟨e0, hq0⟩ := Prod.mk.inj hq
  clear hq
  obtain ⟨e1, hq1⟩ := Prod.mk.inj hq0
  clear hq0
  obtain ⟨e2, hq2⟩ := Prod.mk.inj hq1
  clear hq1
  subst e0
  subst e1
  subst e2
  subst hq2
  exact k_retI hx hb hr hlocks hP hD hS dX6_know_7
def f_X6_mend_b39 (k8 : Int32 → Int32 → (Nat → Int32) → (Nat → Int32) → Int32 → Option (Int32 × (Nat → Int32) × (Nat → Int32) × Int32)) (x2 : Int32) (s0 : Int32) (s1 : Int32) (m_w : (Nat → Int32)) (m_past : (Nat → Int32)) (m_pastMany : Int32) : Option (Int32 × (Nat → Int32) × (Nat → Int32) × Int32) :=
  (f_X6_of x2 (3 : Int32) m_w).bind fun r_10 =>
  if inb (((3 : Int32) + ((5 : Int32) * x2)) + (4 : Int32)) 93 = true then
  k8 (s1 + s0) (x2 + (1 : Int32)) (upd m_w (Int32.toNatClampNeg (((3 : Int32) + ((5 : Int32) * x2)) + (4 : Int32))) r_10) m_past m_pastMany
  else none
def f_X6_mend_b8  : Nat → Int32 → Int32 → (Nat → Int32) → (Nat → Int32) → Int32 → Option (Int32 × (Nat → Int32) × (Nat → Int32) × Int32)
  | 0, _, _, _, _, _ => none
  | n + 1, x1, x2, m_w, m_past, m_pastMany =>
    if (m_w (Int32.toNatClampNeg (1 : Int32))) ≤ x2 then
      some (x1, m_w, m_past, m_pastMany)
    else
      (f_X6_of x2 (3 : Int32) m_w).bind fun r_5 =>
      (f_X6_of x2 (4 : Int32) m_w).bind fun r_7 =>
      if r_5 = r_7 then
        f_X6_mend_b39 (f_X6_mend_b8 n) x2 (0 : Int32) x1 m_w m_past m_pastMany
      else
        f_X6_mend_b39 (f_X6_mend_b8 n) x2 (1 : Int32) x1 m_w m_past m_pastMany
def f_X6_mend (m_w : (Nat → Int32)) (m_past : (Nat → Int32)) (m_pastMany : Int32) : Option (Int32 × (Nat → Int32) × (Nat → Int32) × Int32) :=
  (f_X6_remember m_w m_past m_pastMany).bind fun ⟨o_1, o_2⟩ =>
  f_X6_mend_b8 1000 (0 : Int32) (0 : Int32) m_w o_1 o_2
set_option maxHeartbeats 4000000 in
set_option maxRecDepth 100000 in
theorem c_X6_mend (l : Launch) (D : va_G) (cI cZ cN : ClassId) (aK aV : Nat → Nat)  (qm : Nat) (qm_w : Nat) (qm_past : Nat) (qm_images : Nat) (qm_text : Nat) (qm_may : Nat) (qm_least : Nat) (qm_isCarried : Nat) (qm_list : Nat) (qm_nodes : Nat) (qm_kept : Nat) (qm_keptLow : Nat) (qm_keptHigh : Nat) (qm_keptNodes : Nat) (qm_numbers : Nat) (qm_sums : Nat) (qm_commands : Nat) (qm_held : Nat) (m_w : (Nat → Int32)) (m_past : (Nat → Int32)) (m_pastMany : Int32) (m_filled : Int32) (m_length : Int32) (m_listMany : Int32) (m_went : Int32) (m_cost : Int32) (m_cause : Int32) (m_looks : Int32) (m_isSent : Int32) (m_isOld : Int32) (m_keptMany : Int32) (m_commandMany : Int32) (r : Int32) (z_m_w : (Nat → Int32)) (z_m_past : (Nat → Int32)) (z_m_pastMany : Int32) (h : f_X6_mend m_w m_past m_pastMany = some (r, z_m_w, z_m_past, z_m_pastMany)) : CtI l D cI cZ cN aK aV yX6_mend (k_W yX6_mend cX6_mend 3 (some .int)) { frames := 2, cells := 0, slots := 0, locals := 42 } [.ref qm] [(qm, .inr (6, [.ref qm_w, .ref qm_past, .int m_pastMany, .ref qm_images, .int m_filled, .ref qm_text, .int m_length, .ref qm_may, .ref qm_least, .ref qm_isCarried, .ref qm_list, .ref qm_nodes, .int m_listMany, .int m_went, .int m_cost, .int m_cause, .int m_looks, .int m_isSent, .int m_isOld, .ref qm_kept, .ref qm_keptLow, .ref qm_keptHigh, .int m_keptMany, .ref qm_keptNodes, .ref qm_numbers, .ref qm_sums, .ref qm_commands, .int m_commandMany, .ref qm_held])), (qm_w, .inl (cI, 93, .inl m_w)), (qm_past, .inl (cI, 744, .inl m_past))] r [(qm, .inr (6, [.ref qm_w, .ref qm_past, .int z_m_pastMany, .ref qm_images, .int m_filled, .ref qm_text, .int m_length, .ref qm_may, .ref qm_least, .ref qm_isCarried, .ref qm_list, .ref qm_nodes, .int m_listMany, .int m_went, .int m_cost, .int m_cause, .int m_looks, .int m_isSent, .int m_isOld, .ref qm_kept, .ref qm_keptLow, .ref qm_keptHigh, .int m_keptMany, .ref qm_keptNodes, .ref qm_numbers, .ref qm_sums, .ref qm_commands, .int m_commandMany, .ref qm_held])), (qm_w, .inl (cI, 93, .inl z_m_w)), (qm_past, .inl (cI, 744, .inl z_m_past))] := by
  refine k_startI (by decide) (Nat.le_of_ble_eq_true rfl) ?_
  intro p e s m below meth c A ls hx hb hr hml hown hts hlocks hT hZ hA hP hD hS hl
  have hK := hT.1
  have hu : ∀ w ∈ k_U, w.before ([.ref qm] : List Value).toArray s = true := fun w h => hts w (List.mem_cons_of_mem _ h)
  have hown : s.vm.findClass RX6 = some m.cls := hown
  have hl : lv_has ls 3 [(0, .ref qm)] := hl
  unfold f_X6_mend at h
  have w8 : ∀ (n8 : Nat) (x1 : Int32) (x2 : Int32) (m_w : (Nat → Int32)) (m_past : (Nat → Int32)) (m_pastMany : Int32) (H : Heap) (locs : List Loc) (ls : Array Slot), va_P D vwCl [(qm, .inr (6, [.ref qm_w, .ref qm_past, .int m_pastMany, .ref qm_images, .int m_filled, .ref qm_text, .int m_length, .ref qm_may, .ref qm_least, .ref qm_isCarried, .ref qm_list, .ref qm_nodes, .int m_listMany, .int m_went, .int m_cost, .int m_cause, .int m_looks, .int m_isSent, .int m_isOld, .ref qm_kept, .ref qm_keptLow, .ref qm_keptHigh, .int m_keptMany, .ref qm_keptNodes, .ref qm_numbers, .ref qm_sums, .ref qm_commands, .int m_commandMany, .ref qm_held])), (qm_w, .inl (cI, 93, .inl m_w)), (qm_past, .inl (cI, 744, .inl m_past))] H → va_D A [(qm, .inr (6, [.ref qm_w, .ref qm_past, .int m_pastMany, .ref qm_images, .int m_filled, .ref qm_text, .int m_length, .ref qm_may, .ref qm_least, .ref qm_isCarried, .ref qm_list, .ref qm_nodes, .int m_listMany, .int m_went, .int m_cost, .int m_cause, .int m_looks, .int m_isSent, .int m_isOld, .ref qm_kept, .ref qm_keptLow, .ref qm_keptHigh, .int m_keptMany, .ref qm_keptNodes, .ref qm_numbers, .ref qm_sums, .ref qm_commands, .int m_commandMany, .ref qm_held])), (qm_w, .inl (cI, 93, .inl m_w)), (qm_past, .inl (cI, 744, .inl m_past))] → va_S A s.heap H locs → lv_has ls 3 [(0, .ref qm), (1, .int x1), (2, .int x2)] → f_X6_mend_b8 n8 x1 x2 m_w m_past m_pastMany = some (r, z_m_w, z_m_past, z_m_pastMany) → W p l e { frames := 2, cells := 0, slots := 0, locals := 42 } s m ([.ref qm] : List Value).toArray below meth c H locs 0 0 (MQ below (k_QI D r [(qm, .inr (6, [.ref qm_w, .ref qm_past, .int z_m_pastMany, .ref qm_images, .int m_filled, .ref qm_text, .int m_length, .ref qm_may, .ref qm_least, .ref qm_isCarried, .ref qm_list, .ref qm_nodes, .int m_listMany, .int m_went, .int m_cost, .int m_cause, .int m_looks, .int m_isSent, .int m_isOld, .ref qm_kept, .ref qm_keptLow, .ref qm_keptHigh, .int m_keptMany, .ref qm_keptNodes, .ref qm_numbers, .ref qm_sums, .ref qm_commands, .int m_commandMany, .ref qm_held])), (qm_w, .inl (cI, 93, .inl z_m_w)), (qm_past, .inl (cI, 744, .inl z_m_past))] A) ([.ref qm] : List Value).toArray s 0 0 A) (F0 m 8 ls []) := by
    intro n8
    induction n8 with
    | zero =>
      intro x1 x2 m_w m_past m_pastMany H locs ls hP hD hS hl h
      rw [f_X6_mend_b8] at h
      cases h
    | succ n8 ih8 =>
      intro x1 x2 m_w m_past m_pastMany H locs ls hP hD hS hl h
      rw [f_X6_mend_b8] at h
      have w39 : ∀  (x2 : Int32) (s0 : Int32) (s1 : Int32) (m_w : (Nat → Int32)) (m_past : (Nat → Int32)) (m_pastMany : Int32) (H : Heap) (locs : List Loc) (ls : Array Slot), va_P D vwCl [(qm, .inr (6, [.ref qm_w, .ref qm_past, .int m_pastMany, .ref qm_images, .int m_filled, .ref qm_text, .int m_length, .ref qm_may, .ref qm_least, .ref qm_isCarried, .ref qm_list, .ref qm_nodes, .int m_listMany, .int m_went, .int m_cost, .int m_cause, .int m_looks, .int m_isSent, .int m_isOld, .ref qm_kept, .ref qm_keptLow, .ref qm_keptHigh, .int m_keptMany, .ref qm_keptNodes, .ref qm_numbers, .ref qm_sums, .ref qm_commands, .int m_commandMany, .ref qm_held])), (qm_w, .inl (cI, 93, .inl m_w)), (qm_past, .inl (cI, 744, .inl m_past))] H → va_D A [(qm, .inr (6, [.ref qm_w, .ref qm_past, .int m_pastMany, .ref qm_images, .int m_filled, .ref qm_text, .int m_length, .ref qm_may, .ref qm_least, .ref qm_isCarried, .ref qm_list, .ref qm_nodes, .int m_listMany, .int m_went, .int m_cost, .int m_cause, .int m_looks, .int m_isSent, .int m_isOld, .ref qm_kept, .ref qm_keptLow, .ref qm_keptHigh, .int m_keptMany, .ref qm_keptNodes, .ref qm_numbers, .ref qm_sums, .ref qm_commands, .int m_commandMany, .ref qm_held])), (qm_w, .inl (cI, 93, .inl m_w)), (qm_past, .inl (cI, 744, .inl m_past))] → va_S A s.heap H locs → lv_has ls 3 [(0, .ref qm), (2, .int x2)] → f_X6_mend_b39 (f_X6_mend_b8 n8) x2 s0 s1 m_w m_past m_pastMany = some (r, z_m_w, z_m_past, z_m_pastMany) → W p l e { frames := 2, cells := 0, slots := 0, locals := 42 } s m ([.ref qm] : List Value).toArray below meth c H locs 0 0 (MQ below (k_QI D r [(qm, .inr (6, [.ref qm_w, .ref qm_past, .int z_m_pastMany, .ref qm_images, .int m_filled, .ref qm_text, .int m_length, .ref qm_may, .ref qm_least, .ref qm_isCarried, .ref qm_list, .ref qm_nodes, .int m_listMany, .int m_went, .int m_cost, .int m_cause, .int m_looks, .int m_isSent, .int m_isOld, .ref qm_kept, .ref qm_keptLow, .ref qm_keptHigh, .int m_keptMany, .ref qm_keptNodes, .ref qm_numbers, .ref qm_sums, .ref qm_commands, .int m_commandMany, .ref qm_held])), (qm_w, .inl (cI, 93, .inl z_m_w)), (qm_past, .inl (cI, 744, .inl z_m_past))] A) ([.ref qm] : List Value).toArray s 0 0 A) (F0 m 39 ls [.int s0, .int s1]) := by
        intro x2 s0 s1 m_w m_past m_pastMany H locs ls hP hD hS hl h
        unfold f_X6_mend_b39 at h
        refine lv_iadd hx hb dX6_mend_39 ?_
        refine lv_istore_n (lv' := [(1, .int (s1 + s0)), (0, .ref qm), (2, .int x2)]) hx hb dX6_mend_40 rfl hl (by decide) rfl (fun ls hl => ?_)
        refine lv_aload_n hx hb dX6_mend_41 rfl (lv_at hl 1 rfl) ?_
        refine va_get (D := D) (ci := 6) (v := .ref qm_w) (C := RX6) (T := TX6) (N := 29) hx hb hu k_iX6 hown hK hP 0 rfl rfl 0 (by decide) (hu _ u_718) (fun _ h9 => h9) rfl dX6_mend_42 ?_
        refine lv_iconst (v := (3 : Int32)) hx hb dX6_mend_45 (by decide) ?_
        refine lv_iconst (v := (5 : Int32)) hx hb dX6_mend_46 (by decide) ?_
        refine lv_iload_n hx hb dX6_mend_47 rfl (lv_at hl 2 rfl) ?_
        refine lv_imul hx hb dX6_mend_48 ?_
        refine lv_iadd hx hb dX6_mend_49 ?_
        refine lv_iconst (v := (4 : Int32)) hx hb dX6_mend_50 (by decide) ?_
        refine lv_iadd hx hb dX6_mend_51 ?_
        refine lv_aload_n hx hb dX6_mend_52 rfl (lv_at hl 1 rfl) ?_
        refine lv_iload_n hx hb dX6_mend_53 rfl (lv_at hl 2 rfl) ?_
        refine lv_iconst (v := (3 : Int32)) hx hb dX6_mend_54 (by decide) ?_
        obtain ⟨r_10, hc_11, h⟩ := ob_bind h
        refine k_callVIr (qb := 0) [0, 1] (As := [.int x2, .int (3 : Int32)]) (rest := [.int (((3 : Int32) + ((5 : Int32) * x2)) + (4 : Int32)), .ref qm_w]) ⟨hx, hb, hml, hown, hts⟩ hT hZ hA hP hD hS (c_X6_of l D cI cZ cN aK aV qm qm_w qm_past qm_images qm_text qm_may qm_least qm_isCarried qm_list qm_nodes qm_kept qm_keptLow qm_keptHigh qm_keptNodes qm_numbers qm_sums qm_commands qm_held m_w m_pastMany m_filled m_length m_listMany m_went m_cost m_cause m_looks m_isSent m_isOld m_keptMany m_commandMany x2 (3 : Int32) r_10 hc_11) ⟨callB_of 2 hts (k_good u_840) rfl rfl rfl (hu _ u_51) (hu _ u_837) (by decide +kernel) ⟨Nat.le_of_ble_eq_true rfl, Nat.le_of_ble_eq_true rfl⟩, hu _ u_839, hu _ u_23⟩ rfl rfl rfl (by decide) rfl hl.1 rfl (Nat.le_of_ble_eq_true rfl) dX6_mend_55 (fun H locs hP hD hS => ?_)
        obtain ⟨hin_12, h⟩ := ob_if h
        have hin_12 := inb_in hin_12
        refine va_iast (D := D) hx hb hK hP hD hS 1 0 rfl rfl hin_12 dX6_mend_58 (fun H locs hP hD hS => ?_)
        have hP : va_P D vwCl [(qm, .inr (6, [.ref qm_w, .ref qm_past, .int m_pastMany, .ref qm_images, .int m_filled, .ref qm_text, .int m_length, .ref qm_may, .ref qm_least, .ref qm_isCarried, .ref qm_list, .ref qm_nodes, .int m_listMany, .int m_went, .int m_cost, .int m_cause, .int m_looks, .int m_isSent, .int m_isOld, .ref qm_kept, .ref qm_keptLow, .ref qm_keptHigh, .int m_keptMany, .ref qm_keptNodes, .ref qm_numbers, .ref qm_sums, .ref qm_commands, .int m_commandMany, .ref qm_held])), (qm_w, .inl (cI, 93, .inl (upd m_w (Int32.toNatClampNeg (((3 : Int32) + ((5 : Int32) * x2)) + (4 : Int32))) r_10))), (qm_past, .inl (cI, 744, .inl m_past))] H := hP
        have hD : va_D A [(qm, .inr (6, [.ref qm_w, .ref qm_past, .int m_pastMany, .ref qm_images, .int m_filled, .ref qm_text, .int m_length, .ref qm_may, .ref qm_least, .ref qm_isCarried, .ref qm_list, .ref qm_nodes, .int m_listMany, .int m_went, .int m_cost, .int m_cause, .int m_looks, .int m_isSent, .int m_isOld, .ref qm_kept, .ref qm_keptLow, .ref qm_keptHigh, .int m_keptMany, .ref qm_keptNodes, .ref qm_numbers, .ref qm_sums, .ref qm_commands, .int m_commandMany, .ref qm_held])), (qm_w, .inl (cI, 93, .inl (upd m_w (Int32.toNatClampNeg (((3 : Int32) + ((5 : Int32) * x2)) + (4 : Int32))) r_10))), (qm_past, .inl (cI, 744, .inl m_past))] := hD
        refine lv_iinc (v := (x2 + (1 : Int32))) (lv' := [(2, .int (x2 + (1 : Int32))), (1, .int (s1 + s0)), (0, .ref qm)]) hx hb dX6_mend_59 hl (k := 2) rfl rfl (by decide) rfl (fun ls hl => ?_)
        refine lv_goto (tgt := 8) hx hb dX6_mend_62 (by decide) ?_
        exact ih8 (s1 + s0) (x2 + (1 : Int32)) (upd m_w (Int32.toNatClampNeg (((3 : Int32) + ((5 : Int32) * x2)) + (4 : Int32))) r_10) m_past m_pastMany _ _ _ hP hD hS (lv_sub hl [2, 1, 0] rfl) h
      refine lv_iload_n hx hb dX6_mend_8 rfl (lv_at hl 2 rfl) ?_
      refine lv_aload_n hx hb dX6_mend_9 rfl (lv_at hl 0 rfl) ?_
      refine va_get (D := D) (ci := 6) (v := .ref qm_w) (C := RX6) (T := TX6) (N := 29) hx hb hu k_iX6 hown hK hP 0 rfl rfl 0 (by decide) (hu _ u_718) (fun _ h9 => h9) rfl dX6_mend_10 ?_
      refine lv_iconst (v := (1 : Int32)) hx hb dX6_mend_13 (by decide) ?_
      refine va_iald (D := D) hx hb hK hP 1 0 rfl rfl (inb_in (by decide)) dX6_mend_14 ?_
      refine lv_icmp_ge (tgt := 65) hx hb dX6_mend_15 (by decide) (fun cc_4 => ?_) (fun cc_4 => ?_)
      · have h := (if_pos cc_4).symm.trans h
        refine lv_iload_n hx hb dX6_mend_65 rfl (lv_at hl 1 rfl) ?_
        have hq := Option.some.inj h
        clear h
        obtain ⟨e0, hq0⟩ := Prod.mk.inj hq
        clear hq
        obtain ⟨e1, hq1⟩ := Prod.mk.inj hq0
        clear hq0
        obtain ⟨e2, hq2⟩ := Prod.mk.inj hq1
        clear hq1
        subst e0
        subst e1
        subst e2
        subst hq2
        exact k_retI hx hb hr hlocks hP hD hS dX6_mend_66
      · have h := (if_neg cc_4).symm.trans h
        refine lv_iload_n hx hb dX6_mend_18 rfl (lv_at hl 1 rfl) ?_
        refine lv_aload_n hx hb dX6_mend_19 rfl (lv_at hl 0 rfl) ?_
        refine lv_iload_n hx hb dX6_mend_20 rfl (lv_at hl 2 rfl) ?_
        refine lv_iconst (v := (3 : Int32)) hx hb dX6_mend_21 (by decide) ?_
        obtain ⟨r_5, hc_6, h⟩ := ob_bind h
        refine k_callVIr (qb := 0) [0, 1] (As := [.int x2, .int (3 : Int32)]) (rest := [.int x1]) ⟨hx, hb, hml, hown, hts⟩ hT hZ hA hP hD hS (c_X6_of l D cI cZ cN aK aV qm qm_w qm_past qm_images qm_text qm_may qm_least qm_isCarried qm_list qm_nodes qm_kept qm_keptLow qm_keptHigh qm_keptNodes qm_numbers qm_sums qm_commands qm_held m_w m_pastMany m_filled m_length m_listMany m_went m_cost m_cause m_looks m_isSent m_isOld m_keptMany m_commandMany x2 (3 : Int32) r_5 hc_6) ⟨callB_of 2 hts (k_good u_840) rfl rfl rfl (hu _ u_51) (hu _ u_837) (by decide +kernel) ⟨Nat.le_of_ble_eq_true rfl, Nat.le_of_ble_eq_true rfl⟩, hu _ u_839, hu _ u_23⟩ rfl rfl rfl (by decide) rfl hl.1 rfl (Nat.le_of_ble_eq_true rfl) dX6_mend_22 (fun H locs hP hD hS => ?_)
        refine lv_aload_n hx hb dX6_mend_25 rfl (lv_at hl 0 rfl) ?_
        refine lv_iload_n hx hb dX6_mend_26 rfl (lv_at hl 2 rfl) ?_
        refine lv_iconst (v := (4 : Int32)) hx hb dX6_mend_27 (by decide) ?_
        obtain ⟨r_7, hc_8, h⟩ := ob_bind h
        refine k_callVIr (qb := 0) [0, 1] (As := [.int x2, .int (4 : Int32)]) (rest := [.int r_5, .int x1]) ⟨hx, hb, hml, hown, hts⟩ hT hZ hA hP hD hS (c_X6_of l D cI cZ cN aK aV qm qm_w qm_past qm_images qm_text qm_may qm_least qm_isCarried qm_list qm_nodes qm_kept qm_keptLow qm_keptHigh qm_keptNodes qm_numbers qm_sums qm_commands qm_held m_w m_pastMany m_filled m_length m_listMany m_went m_cost m_cause m_looks m_isSent m_isOld m_keptMany m_commandMany x2 (4 : Int32) r_7 hc_8) ⟨callB_of 2 hts (k_good u_840) rfl rfl rfl (hu _ u_51) (hu _ u_837) (by decide +kernel) ⟨Nat.le_of_ble_eq_true rfl, Nat.le_of_ble_eq_true rfl⟩, hu _ u_839, hu _ u_23⟩ rfl rfl rfl (by decide) rfl hl.1 rfl (Nat.le_of_ble_eq_true rfl) dX6_mend_28 (fun H locs hP hD hS => ?_)
        refine lv_icmp_eq (tgt := 38) hx hb dX6_mend_31 (by decide) (fun cc_9 => ?_) (fun cc_9 => ?_)
        · have h := (if_pos cc_9).symm.trans h
          refine lv_iconst (v := (0 : Int32)) hx hb dX6_mend_38 (by decide) ?_
          exact w39 x2 (0 : Int32) x1 m_w m_past m_pastMany _ _ _ hP hD hS (lv_sub hl [0, 2] rfl) h
        · have h := (if_neg cc_9).symm.trans h
          refine lv_iconst (v := (1 : Int32)) hx hb dX6_mend_34 (by decide) ?_
          refine lv_goto (tgt := 39) hx hb dX6_mend_35 (by decide) ?_
          exact w39 x2 (1 : Int32) x1 m_w m_past m_pastMany _ _ _ hP hD hS (lv_sub hl [0, 2] rfl) h
  refine lv_aload_n hx hb dX6_mend_0 rfl (lv_at hl 0 rfl) ?_
  obtain ⟨⟨o_1, o_2⟩, hc_3, h⟩ := ob_bind h
  dsimp only at h
  refine k_callVV (qb := 0) [0, 1, 2] [0, 2] [0, 2] [(qm, .inr (6, [.ref qm_w, .ref qm_past, .int o_2, .ref qm_images, .int m_filled, .ref qm_text, .int m_length, .ref qm_may, .ref qm_least, .ref qm_isCarried, .ref qm_list, .ref qm_nodes, .int m_listMany, .int m_went, .int m_cost, .int m_cause, .int m_looks, .int m_isSent, .int m_isOld, .ref qm_kept, .ref qm_keptLow, .ref qm_keptHigh, .int m_keptMany, .ref qm_keptNodes, .ref qm_numbers, .ref qm_sums, .ref qm_commands, .int m_commandMany, .ref qm_held])), (qm_past, .inl (cI, 744, .inl o_1))] (As := []) (rest := []) ⟨hx, hb, hml, hown, hts⟩ hT hZ hA hP hD hS (c_X6_remember l D cI cZ cN aK aV qm qm_w qm_past qm_images qm_text qm_may qm_least qm_isCarried qm_list qm_nodes qm_kept qm_keptLow qm_keptHigh qm_keptNodes qm_numbers qm_sums qm_commands qm_held m_w m_past m_pastMany m_filled m_length m_listMany m_went m_cost m_cause m_looks m_isSent m_isOld m_keptMany m_commandMany o_1 o_2 hc_3) ⟨callB_of 0 hts (k_good u_816) rfl rfl rfl (hu _ u_51) (hu _ u_813) (by decide +kernel) ⟨Nat.le_of_ble_eq_true rfl, Nat.le_of_ble_eq_true rfl⟩, hu _ u_815, hu _ u_18⟩ rfl rfl rfl (by decide) (by decide) (by decide) rfl rfl rfl rfl hl.1 rfl (Nat.le_of_ble_eq_true rfl) dX6_mend_1 (fun H locs hP hD hS => ?_)
  have hP : va_P D vwCl [(qm, .inr (6, [.ref qm_w, .ref qm_past, .int o_2, .ref qm_images, .int m_filled, .ref qm_text, .int m_length, .ref qm_may, .ref qm_least, .ref qm_isCarried, .ref qm_list, .ref qm_nodes, .int m_listMany, .int m_went, .int m_cost, .int m_cause, .int m_looks, .int m_isSent, .int m_isOld, .ref qm_kept, .ref qm_keptLow, .ref qm_keptHigh, .int m_keptMany, .ref qm_keptNodes, .ref qm_numbers, .ref qm_sums, .ref qm_commands, .int m_commandMany, .ref qm_held])), (qm_w, .inl (cI, 93, .inl m_w)), (qm_past, .inl (cI, 744, .inl o_1))] H := hP
  have hD : va_D A [(qm, .inr (6, [.ref qm_w, .ref qm_past, .int o_2, .ref qm_images, .int m_filled, .ref qm_text, .int m_length, .ref qm_may, .ref qm_least, .ref qm_isCarried, .ref qm_list, .ref qm_nodes, .int m_listMany, .int m_went, .int m_cost, .int m_cause, .int m_looks, .int m_isSent, .int m_isOld, .ref qm_kept, .ref qm_keptLow, .ref qm_keptHigh, .int m_keptMany, .ref qm_keptNodes, .ref qm_numbers, .ref qm_sums, .ref qm_commands, .int m_commandMany, .ref qm_held])), (qm_w, .inl (cI, 93, .inl m_w)), (qm_past, .inl (cI, 744, .inl o_1))] := hD
  refine lv_iconst (v := (0 : Int32)) hx hb dX6_mend_4 (by decide) ?_
  refine lv_istore_n (lv' := [(1, .int (0 : Int32)), (0, .ref qm)]) hx hb dX6_mend_5 rfl hl (by decide) rfl (fun ls hl => ?_)
  refine lv_iconst (v := (0 : Int32)) hx hb dX6_mend_6 (by decide) ?_
  refine lv_istore_n (lv' := [(2, .int (0 : Int32)), (1, .int (0 : Int32)), (0, .ref qm)]) hx hb dX6_mend_7 rfl hl (by decide) rfl (fun ls hl => ?_)
  exact w8 1000 (0 : Int32) (0 : Int32) m_w o_1 o_2 _ _ _ hP hD hS (lv_sub hl [2, 1, 0] rfl) h
def f_X6_mendByLetter_b25  : Nat → Int32 → Int32 → (Nat → Int32) → (Nat → Int32) → Int32 → Int32 → Int32 → (Nat → Int32) → Int32 → Option (Int32 × (Nat → Int32) × (Nat → Int32) × Int32)
  | 0, _, _, _, _, _, _, _, _, _ => none
  | n + 1, x1, x2, m_w, m_past, m_pastMany, m_isSent, m_isOld, m_kept, m_keptMany =>
    if m_keptMany ≤ x2 then
      some (x1, m_w, m_past, m_pastMany)
    else
      if inb x2 18 = true then
      (f_X6_of (m_kept (Int32.toNatClampNeg x2)) (4 : Int32) m_w).bind fun r_8 =>
      if inb (((3 : Int32) + ((5 : Int32) * (m_kept (Int32.toNatClampNeg x2)))) + (4 : Int32)) 93 = true then
      (f_X6_mendByLetter_b25 n) (x1 + r_8) (x2 + (1 : Int32)) (upd m_w (Int32.toNatClampNeg (((3 : Int32) + ((5 : Int32) * (m_kept (Int32.toNatClampNeg x2)))) + (4 : Int32))) (0 : Int32)) m_past m_pastMany m_isSent m_isOld m_kept m_keptMany
      else none
      else none
def f_X6_mendByLetter (m_w : (Nat → Int32)) (m_past : (Nat → Int32)) (m_pastMany : Int32) (m_isSent : Int32) (m_isOld : Int32) (m_kept : (Nat → Int32)) (m_keptMany : Int32) : Option (Int32 × (Nat → Int32) × (Nat → Int32) × Int32) :=
  if m_isSent = (0 : Int32) then
    some ((-2 : Int32), m_w, m_past, m_pastMany)
  else
    if m_isOld = (0 : Int32) then
      (f_X6_remember m_w m_past m_pastMany).bind fun ⟨o_3, o_4⟩ =>
      f_X6_mendByLetter_b25 1000 (0 : Int32) (0 : Int32) m_w o_3 o_4 m_isSent m_isOld m_kept m_keptMany
    else
      some ((-2 : Int32), m_w, m_past, m_pastMany)
set_option maxHeartbeats 4000000 in
set_option maxRecDepth 100000 in
theorem c_X6_mendByLetter (l : Launch) (D : va_G) (cI cZ cN : ClassId) (aK aV : Nat → Nat)  (qm : Nat) (qm_w : Nat) (qm_past : Nat) (qm_images : Nat) (qm_text : Nat) (qm_may : Nat) (qm_least : Nat) (qm_isCarried : Nat) (qm_list : Nat) (qm_nodes : Nat) (qm_kept : Nat) (qm_keptLow : Nat) (qm_keptHigh : Nat) (qm_keptNodes : Nat) (qm_numbers : Nat) (qm_sums : Nat) (qm_commands : Nat) (qm_held : Nat) (m_w : (Nat → Int32)) (m_past : (Nat → Int32)) (m_pastMany : Int32) (m_filled : Int32) (m_length : Int32) (m_listMany : Int32) (m_went : Int32) (m_cost : Int32) (m_cause : Int32) (m_looks : Int32) (m_isSent : Int32) (m_isOld : Int32) (m_kept : (Nat → Int32)) (m_keptMany : Int32) (m_commandMany : Int32) (r : Int32) (z_m_w : (Nat → Int32)) (z_m_past : (Nat → Int32)) (z_m_pastMany : Int32) (h : f_X6_mendByLetter m_w m_past m_pastMany m_isSent m_isOld m_kept m_keptMany = some (r, z_m_w, z_m_past, z_m_pastMany)) : CtI l D cI cZ cN aK aV yX6_mendByLetter (k_W yX6_mendByLetter cX6_mendByLetter 3 (some .int)) { frames := 2, cells := 0, slots := 0, locals := 42 } [.ref qm] [(qm, .inr (6, [.ref qm_w, .ref qm_past, .int m_pastMany, .ref qm_images, .int m_filled, .ref qm_text, .int m_length, .ref qm_may, .ref qm_least, .ref qm_isCarried, .ref qm_list, .ref qm_nodes, .int m_listMany, .int m_went, .int m_cost, .int m_cause, .int m_looks, .int m_isSent, .int m_isOld, .ref qm_kept, .ref qm_keptLow, .ref qm_keptHigh, .int m_keptMany, .ref qm_keptNodes, .ref qm_numbers, .ref qm_sums, .ref qm_commands, .int m_commandMany, .ref qm_held])), (qm_w, .inl (cI, 93, .inl m_w)), (qm_past, .inl (cI, 744, .inl m_past)), (qm_kept, .inl (cI, 18, .inl m_kept))] r [(qm, .inr (6, [.ref qm_w, .ref qm_past, .int z_m_pastMany, .ref qm_images, .int m_filled, .ref qm_text, .int m_length, .ref qm_may, .ref qm_least, .ref qm_isCarried, .ref qm_list, .ref qm_nodes, .int m_listMany, .int m_went, .int m_cost, .int m_cause, .int m_looks, .int m_isSent, .int m_isOld, .ref qm_kept, .ref qm_keptLow, .ref qm_keptHigh, .int m_keptMany, .ref qm_keptNodes, .ref qm_numbers, .ref qm_sums, .ref qm_commands, .int m_commandMany, .ref qm_held])), (qm_w, .inl (cI, 93, .inl z_m_w)), (qm_past, .inl (cI, 744, .inl z_m_past)), (qm_kept, .inl (cI, 18, .inl m_kept))] := by
  refine k_startI (by decide) (Nat.le_of_ble_eq_true rfl) ?_
  intro p e s m below meth c A ls hx hb hr hml hown hts hlocks hT hZ hA hP hD hS hl
  have hK := hT.1
  have hu : ∀ w ∈ k_U, w.before ([.ref qm] : List Value).toArray s = true := fun w h => hts w (List.mem_cons_of_mem _ h)
  have hown : s.vm.findClass RX6 = some m.cls := hown
  have hl : lv_has ls 3 [(0, .ref qm)] := hl
  unfold f_X6_mendByLetter at h
  have w25 : ∀ (n25 : Nat) (x1 : Int32) (x2 : Int32) (m_w : (Nat → Int32)) (m_past : (Nat → Int32)) (m_pastMany : Int32) (m_isSent : Int32) (m_isOld : Int32) (m_kept : (Nat → Int32)) (m_keptMany : Int32) (H : Heap) (locs : List Loc) (ls : Array Slot), va_P D vwCl [(qm, .inr (6, [.ref qm_w, .ref qm_past, .int m_pastMany, .ref qm_images, .int m_filled, .ref qm_text, .int m_length, .ref qm_may, .ref qm_least, .ref qm_isCarried, .ref qm_list, .ref qm_nodes, .int m_listMany, .int m_went, .int m_cost, .int m_cause, .int m_looks, .int m_isSent, .int m_isOld, .ref qm_kept, .ref qm_keptLow, .ref qm_keptHigh, .int m_keptMany, .ref qm_keptNodes, .ref qm_numbers, .ref qm_sums, .ref qm_commands, .int m_commandMany, .ref qm_held])), (qm_w, .inl (cI, 93, .inl m_w)), (qm_past, .inl (cI, 744, .inl m_past)), (qm_kept, .inl (cI, 18, .inl m_kept))] H → va_D A [(qm, .inr (6, [.ref qm_w, .ref qm_past, .int m_pastMany, .ref qm_images, .int m_filled, .ref qm_text, .int m_length, .ref qm_may, .ref qm_least, .ref qm_isCarried, .ref qm_list, .ref qm_nodes, .int m_listMany, .int m_went, .int m_cost, .int m_cause, .int m_looks, .int m_isSent, .int m_isOld, .ref qm_kept, .ref qm_keptLow, .ref qm_keptHigh, .int m_keptMany, .ref qm_keptNodes, .ref qm_numbers, .ref qm_sums, .ref qm_commands, .int m_commandMany, .ref qm_held])), (qm_w, .inl (cI, 93, .inl m_w)), (qm_past, .inl (cI, 744, .inl m_past)), (qm_kept, .inl (cI, 18, .inl m_kept))] → va_S A s.heap H locs → lv_has ls 3 [(0, .ref qm), (1, .int x1), (2, .int x2)] → f_X6_mendByLetter_b25 n25 x1 x2 m_w m_past m_pastMany m_isSent m_isOld m_kept m_keptMany = some (r, z_m_w, z_m_past, z_m_pastMany) → W p l e { frames := 2, cells := 0, slots := 0, locals := 42 } s m ([.ref qm] : List Value).toArray below meth c H locs 0 0 (MQ below (k_QI D r [(qm, .inr (6, [.ref qm_w, .ref qm_past, .int z_m_pastMany, .ref qm_images, .int m_filled, .ref qm_text, .int m_length, .ref qm_may, .ref qm_least, .ref qm_isCarried, .ref qm_list, .ref qm_nodes, .int m_listMany, .int m_went, .int m_cost, .int m_cause, .int m_looks, .int m_isSent, .int m_isOld, .ref qm_kept, .ref qm_keptLow, .ref qm_keptHigh, .int m_keptMany, .ref qm_keptNodes, .ref qm_numbers, .ref qm_sums, .ref qm_commands, .int m_commandMany, .ref qm_held])), (qm_w, .inl (cI, 93, .inl z_m_w)), (qm_past, .inl (cI, 744, .inl z_m_past)), (qm_kept, .inl (cI, 18, .inl m_kept))] A) ([.ref qm] : List Value).toArray s 0 0 A) (F0 m 25 ls []) := by
    intro n25
    induction n25 with
    | zero =>
      intro x1 x2 m_w m_past m_pastMany m_isSent m_isOld m_kept m_keptMany H locs ls hP hD hS hl h
      rw [f_X6_mendByLetter_b25] at h
      cases h
    | succ n25 ih25 =>
      intro x1 x2 m_w m_past m_pastMany m_isSent m_isOld m_kept m_keptMany H locs ls hP hD hS hl h
      rw [f_X6_mendByLetter_b25] at h
      refine lv_iload_n hx hb dX6_mendByLetter_25 rfl (lv_at hl 2 rfl) ?_
      refine lv_aload_n hx hb dX6_mendByLetter_26 rfl (lv_at hl 0 rfl) ?_
      refine va_get (D := D) (ci := 6) (v := .int m_keptMany) (C := RX6) (T := TX6) (N := 29) hx hb hu k_iX6 hown hK hP 0 rfl rfl 22 (by decide) (hu _ u_740) (fun _ h9 => h9) rfl dX6_mendByLetter_27 ?_
      refine lv_icmp_ge (tgt := 71) hx hb dX6_mendByLetter_30 (by decide) (fun cc_6 => ?_) (fun cc_6 => ?_)
      · have h := (if_pos cc_6).symm.trans h
        refine lv_iload_n hx hb dX6_mendByLetter_71 rfl (lv_at hl 1 rfl) ?_
        have hq := Option.some.inj h
        clear h
        obtain ⟨e0, hq0⟩ := Prod.mk.inj hq
        clear hq
        obtain ⟨e1, hq1⟩ := Prod.mk.inj hq0
        clear hq0
        obtain ⟨e2, hq2⟩ := Prod.mk.inj hq1
        clear hq1
        subst e0
        subst e1
        subst e2
        subst hq2
        exact k_retI hx hb hr hlocks hP hD hS dX6_mendByLetter_72
      · have h := (if_neg cc_6).symm.trans h
        refine lv_iload_n hx hb dX6_mendByLetter_33 rfl (lv_at hl 1 rfl) ?_
        refine lv_aload_n hx hb dX6_mendByLetter_34 rfl (lv_at hl 0 rfl) ?_
        refine lv_aload_n hx hb dX6_mendByLetter_35 rfl (lv_at hl 0 rfl) ?_
        refine va_get (D := D) (ci := 6) (v := .ref qm_kept) (C := RX6) (T := TX6) (N := 29) hx hb hu k_iX6 hown hK hP 0 rfl rfl 19 (by decide) (hu _ u_737) (fun _ h9 => h9) rfl dX6_mendByLetter_36 ?_
        refine lv_iload_n hx hb dX6_mendByLetter_39 rfl (lv_at hl 2 rfl) ?_
        obtain ⟨hin_7, h⟩ := ob_if h
        have hin_7 := inb_in hin_7
        refine va_iald (D := D) hx hb hK hP 3 0 rfl rfl hin_7 dX6_mendByLetter_40 ?_
        refine lv_iconst (v := (4 : Int32)) hx hb dX6_mendByLetter_41 (by decide) ?_
        obtain ⟨r_8, hc_9, h⟩ := ob_bind h
        refine k_callVIr (qb := 0) [0, 1] (As := [.int (m_kept (Int32.toNatClampNeg x2)), .int (4 : Int32)]) (rest := [.int x1]) ⟨hx, hb, hml, hown, hts⟩ hT hZ hA hP hD hS (c_X6_of l D cI cZ cN aK aV qm qm_w qm_past qm_images qm_text qm_may qm_least qm_isCarried qm_list qm_nodes qm_kept qm_keptLow qm_keptHigh qm_keptNodes qm_numbers qm_sums qm_commands qm_held m_w m_pastMany m_filled m_length m_listMany m_went m_cost m_cause m_looks m_isSent m_isOld m_keptMany m_commandMany (m_kept (Int32.toNatClampNeg x2)) (4 : Int32) r_8 hc_9) ⟨callB_of 2 hts (k_good u_840) rfl rfl rfl (hu _ u_51) (hu _ u_837) (by decide +kernel) ⟨Nat.le_of_ble_eq_true rfl, Nat.le_of_ble_eq_true rfl⟩, hu _ u_839, hu _ u_23⟩ rfl rfl rfl (by decide) rfl hl.1 rfl (Nat.le_of_ble_eq_true rfl) dX6_mendByLetter_42 (fun H locs hP hD hS => ?_)
        refine lv_iadd hx hb dX6_mendByLetter_45 ?_
        refine lv_istore_n (lv' := [(1, .int (x1 + r_8)), (0, .ref qm), (2, .int x2)]) hx hb dX6_mendByLetter_46 rfl hl (by decide) rfl (fun ls hl => ?_)
        refine lv_aload_n hx hb dX6_mendByLetter_47 rfl (lv_at hl 1 rfl) ?_
        refine va_get (D := D) (ci := 6) (v := .ref qm_w) (C := RX6) (T := TX6) (N := 29) hx hb hu k_iX6 hown hK hP 0 rfl rfl 0 (by decide) (hu _ u_718) (fun _ h9 => h9) rfl dX6_mendByLetter_48 ?_
        refine lv_iconst (v := (3 : Int32)) hx hb dX6_mendByLetter_51 (by decide) ?_
        refine lv_iconst (v := (5 : Int32)) hx hb dX6_mendByLetter_52 (by decide) ?_
        refine lv_aload_n hx hb dX6_mendByLetter_53 rfl (lv_at hl 1 rfl) ?_
        refine va_get (D := D) (ci := 6) (v := .ref qm_kept) (C := RX6) (T := TX6) (N := 29) hx hb hu k_iX6 hown hK hP 0 rfl rfl 19 (by decide) (hu _ u_737) (fun _ h9 => h9) rfl dX6_mendByLetter_54 ?_
        refine lv_iload_n hx hb dX6_mendByLetter_57 rfl (lv_at hl 2 rfl) ?_
        refine va_iald (D := D) hx hb hK hP 3 0 rfl rfl hin_7 dX6_mendByLetter_58 ?_
        refine lv_imul hx hb dX6_mendByLetter_59 ?_
        refine lv_iadd hx hb dX6_mendByLetter_60 ?_
        refine lv_iconst (v := (4 : Int32)) hx hb dX6_mendByLetter_61 (by decide) ?_
        refine lv_iadd hx hb dX6_mendByLetter_62 ?_
        refine lv_iconst (v := (0 : Int32)) hx hb dX6_mendByLetter_63 (by decide) ?_
        obtain ⟨hin_10, h⟩ := ob_if h
        have hin_10 := inb_in hin_10
        refine va_iast (D := D) hx hb hK hP hD hS 1 0 rfl rfl hin_10 dX6_mendByLetter_64 (fun H locs hP hD hS => ?_)
        have hP : va_P D vwCl [(qm, .inr (6, [.ref qm_w, .ref qm_past, .int m_pastMany, .ref qm_images, .int m_filled, .ref qm_text, .int m_length, .ref qm_may, .ref qm_least, .ref qm_isCarried, .ref qm_list, .ref qm_nodes, .int m_listMany, .int m_went, .int m_cost, .int m_cause, .int m_looks, .int m_isSent, .int m_isOld, .ref qm_kept, .ref qm_keptLow, .ref qm_keptHigh, .int m_keptMany, .ref qm_keptNodes, .ref qm_numbers, .ref qm_sums, .ref qm_commands, .int m_commandMany, .ref qm_held])), (qm_w, .inl (cI, 93, .inl (upd m_w (Int32.toNatClampNeg (((3 : Int32) + ((5 : Int32) * (m_kept (Int32.toNatClampNeg x2)))) + (4 : Int32))) (0 : Int32)))), (qm_past, .inl (cI, 744, .inl m_past)), (qm_kept, .inl (cI, 18, .inl m_kept))] H := hP
        have hD : va_D A [(qm, .inr (6, [.ref qm_w, .ref qm_past, .int m_pastMany, .ref qm_images, .int m_filled, .ref qm_text, .int m_length, .ref qm_may, .ref qm_least, .ref qm_isCarried, .ref qm_list, .ref qm_nodes, .int m_listMany, .int m_went, .int m_cost, .int m_cause, .int m_looks, .int m_isSent, .int m_isOld, .ref qm_kept, .ref qm_keptLow, .ref qm_keptHigh, .int m_keptMany, .ref qm_keptNodes, .ref qm_numbers, .ref qm_sums, .ref qm_commands, .int m_commandMany, .ref qm_held])), (qm_w, .inl (cI, 93, .inl (upd m_w (Int32.toNatClampNeg (((3 : Int32) + ((5 : Int32) * (m_kept (Int32.toNatClampNeg x2)))) + (4 : Int32))) (0 : Int32)))), (qm_past, .inl (cI, 744, .inl m_past)), (qm_kept, .inl (cI, 18, .inl m_kept))] := hD
        refine lv_iinc (v := (x2 + (1 : Int32))) (lv' := [(2, .int (x2 + (1 : Int32))), (1, .int (x1 + r_8)), (0, .ref qm)]) hx hb dX6_mendByLetter_65 hl (k := 2) rfl rfl (by decide) rfl (fun ls hl => ?_)
        refine lv_goto (tgt := 25) hx hb dX6_mendByLetter_68 (by decide) ?_
        exact ih25 (x1 + r_8) (x2 + (1 : Int32)) (upd m_w (Int32.toNatClampNeg (((3 : Int32) + ((5 : Int32) * (m_kept (Int32.toNatClampNeg x2)))) + (4 : Int32))) (0 : Int32)) m_past m_pastMany m_isSent m_isOld m_kept m_keptMany _ _ _ hP hD hS (lv_sub hl [2, 1, 0] rfl) h
  refine lv_aload_n hx hb dX6_mendByLetter_0 rfl (lv_at hl 0 rfl) ?_
  refine va_get (D := D) (ci := 6) (v := .int m_isSent) (C := RX6) (T := TX6) (N := 29) hx hb hu k_iX6 hown hK hP 0 rfl rfl 17 (by decide) (hu _ u_735) (fun _ h9 => h9) rfl dX6_mendByLetter_1 ?_
  refine lv_if_eq (tgt := 14) hx hb dX6_mendByLetter_4 (by decide) (fun cc_1 => ?_) (fun cc_1 => ?_)
  · have h := (if_pos cc_1).symm.trans h
    refine lv_bipush (v := (-2 : Int32)) hx hb dX6_mendByLetter_14 (by decide) ?_
    have hq := Option.some.inj h
    clear h
    obtain ⟨e0, hq0⟩ := Prod.mk.inj hq
    clear hq
    obtain ⟨e1, hq1⟩ := Prod.mk.inj hq0
    clear hq0
    obtain ⟨e2, hq2⟩ := Prod.mk.inj hq1
    clear hq1
    subst e0
    subst e1
    subst e2
    subst hq2
    exact k_retI hx hb hr hlocks hP hD hS dX6_mendByLetter_16
  · have h := (if_neg cc_1).symm.trans h
    refine lv_aload_n hx hb dX6_mendByLetter_7 rfl (lv_at hl 0 rfl) ?_
    refine va_get (D := D) (ci := 6) (v := .int m_isOld) (C := RX6) (T := TX6) (N := 29) hx hb hu k_iX6 hown hK hP 0 rfl rfl 18 (by decide) (hu _ u_736) (fun _ h9 => h9) rfl dX6_mendByLetter_8 ?_
    refine lv_if_eq (tgt := 17) hx hb dX6_mendByLetter_11 (by decide) (fun cc_2 => ?_) (fun cc_2 => ?_)
    · have h := (if_pos cc_2).symm.trans h
      refine lv_aload_n hx hb dX6_mendByLetter_17 rfl (lv_at hl 0 rfl) ?_
      obtain ⟨⟨o_3, o_4⟩, hc_5, h⟩ := ob_bind h
      dsimp only at h
      refine k_callVV (qb := 0) [0, 1, 2] [0, 2] [0, 2] [(qm, .inr (6, [.ref qm_w, .ref qm_past, .int o_4, .ref qm_images, .int m_filled, .ref qm_text, .int m_length, .ref qm_may, .ref qm_least, .ref qm_isCarried, .ref qm_list, .ref qm_nodes, .int m_listMany, .int m_went, .int m_cost, .int m_cause, .int m_looks, .int m_isSent, .int m_isOld, .ref qm_kept, .ref qm_keptLow, .ref qm_keptHigh, .int m_keptMany, .ref qm_keptNodes, .ref qm_numbers, .ref qm_sums, .ref qm_commands, .int m_commandMany, .ref qm_held])), (qm_past, .inl (cI, 744, .inl o_3))] (As := []) (rest := []) ⟨hx, hb, hml, hown, hts⟩ hT hZ hA hP hD hS (c_X6_remember l D cI cZ cN aK aV qm qm_w qm_past qm_images qm_text qm_may qm_least qm_isCarried qm_list qm_nodes qm_kept qm_keptLow qm_keptHigh qm_keptNodes qm_numbers qm_sums qm_commands qm_held m_w m_past m_pastMany m_filled m_length m_listMany m_went m_cost m_cause m_looks m_isSent m_isOld m_keptMany m_commandMany o_3 o_4 hc_5) ⟨callB_of 0 hts (k_good u_816) rfl rfl rfl (hu _ u_51) (hu _ u_813) (by decide +kernel) ⟨Nat.le_of_ble_eq_true rfl, Nat.le_of_ble_eq_true rfl⟩, hu _ u_815, hu _ u_18⟩ rfl rfl rfl (by decide) (by decide) (by decide) rfl rfl rfl rfl hl.1 rfl (Nat.le_of_ble_eq_true rfl) dX6_mendByLetter_18 (fun H locs hP hD hS => ?_)
      have hP : va_P D vwCl [(qm, .inr (6, [.ref qm_w, .ref qm_past, .int o_4, .ref qm_images, .int m_filled, .ref qm_text, .int m_length, .ref qm_may, .ref qm_least, .ref qm_isCarried, .ref qm_list, .ref qm_nodes, .int m_listMany, .int m_went, .int m_cost, .int m_cause, .int m_looks, .int m_isSent, .int m_isOld, .ref qm_kept, .ref qm_keptLow, .ref qm_keptHigh, .int m_keptMany, .ref qm_keptNodes, .ref qm_numbers, .ref qm_sums, .ref qm_commands, .int m_commandMany, .ref qm_held])), (qm_w, .inl (cI, 93, .inl m_w)), (qm_past, .inl (cI, 744, .inl o_3)), (qm_kept, .inl (cI, 18, .inl m_kept))] H := hP
      have hD : va_D A [(qm, .inr (6, [.ref qm_w, .ref qm_past, .int o_4, .ref qm_images, .int m_filled, .ref qm_text, .int m_length, .ref qm_may, .ref qm_least, .ref qm_isCarried, .ref qm_list, .ref qm_nodes, .int m_listMany, .int m_went, .int m_cost, .int m_cause, .int m_looks, .int m_isSent, .int m_isOld, .ref qm_kept, .ref qm_keptLow, .ref qm_keptHigh, .int m_keptMany, .ref qm_keptNodes, .ref qm_numbers, .ref qm_sums, .ref qm_commands, .int m_commandMany, .ref qm_held])), (qm_w, .inl (cI, 93, .inl m_w)), (qm_past, .inl (cI, 744, .inl o_3)), (qm_kept, .inl (cI, 18, .inl m_kept))] := hD
      refine lv_iconst (v := (0 : Int32)) hx hb dX6_mendByLetter_21 (by decide) ?_
      refine lv_istore_n (lv' := [(1, .int (0 : Int32)), (0, .ref qm)]) hx hb dX6_mendByLetter_22 rfl hl (by decide) rfl (fun ls hl => ?_)
      refine lv_iconst (v := (0 : Int32)) hx hb dX6_mendByLetter_23 (by decide) ?_
      refine lv_istore_n (lv' := [(2, .int (0 : Int32)), (1, .int (0 : Int32)), (0, .ref qm)]) hx hb dX6_mendByLetter_24 rfl hl (by decide) rfl (fun ls hl => ?_)
      exact w25 1000 (0 : Int32) (0 : Int32) m_w o_3 o_4 m_isSent m_isOld m_kept m_keptMany _ _ _ hP hD hS (lv_sub hl [2, 1, 0] rfl) h
    · have h := (if_neg cc_2).symm.trans h
      refine lv_bipush (v := (-2 : Int32)) hx hb dX6_mendByLetter_14 (by decide) ?_
      have hq := Option.some.inj h
      clear h
      obtain ⟨e0, hq0⟩ := Prod.mk.inj hq
      clear hq
      obtain ⟨e1, hq1⟩ := Prod.mk.inj hq0
      clear hq0
      obtain ⟨e2, hq2⟩ := Prod.mk.inj hq1
      clear hq1
      subst e0
      subst e1
      subst e2
      subst hq2
      exact k_retI hx hb hr hlocks hP hD hS dX6_mendByLetter_16
def f_X6_setRoom (p1 : Int32) (m_w : (Nat → Int32)) (m_past : (Nat → Int32)) (m_pastMany : Int32) : Option (Int32 × (Nat → Int32) × (Nat → Int32) × Int32) :=
  if (f_X6_isIn p1 (0 : Int32) (18 : Int32)) = (0 : Int32) then
    some ((-1 : Int32), m_w, m_past, m_pastMany)
  else
    (f_X6_remember m_w m_past m_pastMany).bind fun ⟨o_2, o_3⟩ =>
    some ((m_w (Int32.toNatClampNeg (2 : Int32))), (upd m_w (Int32.toNatClampNeg (2 : Int32)) p1), o_2, o_3)
set_option maxHeartbeats 4000000 in
set_option maxRecDepth 100000 in
theorem c_X6_setRoom (l : Launch) (D : va_G) (cI cZ cN : ClassId) (aK aV : Nat → Nat)  (qm : Nat) (qm_w : Nat) (qm_past : Nat) (qm_images : Nat) (qm_text : Nat) (qm_may : Nat) (qm_least : Nat) (qm_isCarried : Nat) (qm_list : Nat) (qm_nodes : Nat) (qm_kept : Nat) (qm_keptLow : Nat) (qm_keptHigh : Nat) (qm_keptNodes : Nat) (qm_numbers : Nat) (qm_sums : Nat) (qm_commands : Nat) (qm_held : Nat) (m_w : (Nat → Int32)) (m_past : (Nat → Int32)) (m_pastMany : Int32) (m_filled : Int32) (m_length : Int32) (m_listMany : Int32) (m_went : Int32) (m_cost : Int32) (m_cause : Int32) (m_looks : Int32) (m_isSent : Int32) (m_isOld : Int32) (m_keptMany : Int32) (m_commandMany : Int32) (p1 : Int32) (r : Int32) (z_m_w : (Nat → Int32)) (z_m_past : (Nat → Int32)) (z_m_pastMany : Int32) (h : f_X6_setRoom p1 m_w m_past m_pastMany = some (r, z_m_w, z_m_past, z_m_pastMany)) : CtI l D cI cZ cN aK aV yX6_setRoom (k_W yX6_setRoom cX6_setRoom 3 (some .int)) { frames := 2, cells := 0, slots := 0, locals := 42 } [.ref qm, .int p1] [(qm, .inr (6, [.ref qm_w, .ref qm_past, .int m_pastMany, .ref qm_images, .int m_filled, .ref qm_text, .int m_length, .ref qm_may, .ref qm_least, .ref qm_isCarried, .ref qm_list, .ref qm_nodes, .int m_listMany, .int m_went, .int m_cost, .int m_cause, .int m_looks, .int m_isSent, .int m_isOld, .ref qm_kept, .ref qm_keptLow, .ref qm_keptHigh, .int m_keptMany, .ref qm_keptNodes, .ref qm_numbers, .ref qm_sums, .ref qm_commands, .int m_commandMany, .ref qm_held])), (qm_w, .inl (cI, 93, .inl m_w)), (qm_past, .inl (cI, 744, .inl m_past))] r [(qm, .inr (6, [.ref qm_w, .ref qm_past, .int z_m_pastMany, .ref qm_images, .int m_filled, .ref qm_text, .int m_length, .ref qm_may, .ref qm_least, .ref qm_isCarried, .ref qm_list, .ref qm_nodes, .int m_listMany, .int m_went, .int m_cost, .int m_cause, .int m_looks, .int m_isSent, .int m_isOld, .ref qm_kept, .ref qm_keptLow, .ref qm_keptHigh, .int m_keptMany, .ref qm_keptNodes, .ref qm_numbers, .ref qm_sums, .ref qm_commands, .int m_commandMany, .ref qm_held])), (qm_w, .inl (cI, 93, .inl z_m_w)), (qm_past, .inl (cI, 744, .inl z_m_past))] := by
  refine k_startI (by decide) (Nat.le_of_ble_eq_true rfl) ?_
  intro p e s m below meth c A ls hx hb hr hml hown hts hlocks hT hZ hA hP hD hS hl
  have hK := hT.1
  have hu : ∀ w ∈ k_U, w.before ([.ref qm, .int p1] : List Value).toArray s = true := fun w h => hts w (List.mem_cons_of_mem _ h)
  have hown : s.vm.findClass RX6 = some m.cls := hown
  have hl : lv_has ls 3 [(0, .ref qm), (1, .int p1)] := hl
  unfold f_X6_setRoom at h
  refine lv_iload_n hx hb dX6_setRoom_0 rfl (lv_at hl 1 rfl) ?_
  refine lv_iconst (v := (0 : Int32)) hx hb dX6_setRoom_1 (by decide) ?_
  refine lv_bipush (v := (18 : Int32)) hx hb dX6_setRoom_2 (by decide) ?_
  refine k_call0 (As := [.int p1, .int (0 : Int32), .int (18 : Int32)]) (rest := []) ⟨hx, hb, hml, hown, hts⟩ hT hZ hA hP hD hS (c_X6_isIn l D cI cZ cN aK aV p1 (0 : Int32) (18 : Int32) _ rfl) ⟨callB_of 3 hts (k_good u_812) rfl rfl rfl (hu _ u_51) (hu _ u_810) (by decide +kernel) ⟨Nat.le_of_ble_eq_true rfl, Nat.le_of_ble_eq_true rfl⟩, hu _ u_811⟩ rfl hl.1 rfl (Nat.le_of_ble_eq_true rfl) dX6_setRoom_4 (fun H locs hP hD hS => ?_)
  refine lv_if_ne (tgt := 12) hx hb dX6_setRoom_7 (by decide) (fun cc_1 => ?_) (fun cc_1 => ?_)
  · have h := (if_neg cc_1).symm.trans h
    refine lv_aload_n hx hb dX6_setRoom_12 rfl (lv_at hl 0 rfl) ?_
    obtain ⟨⟨o_2, o_3⟩, hc_4, h⟩ := ob_bind h
    dsimp only at h
    refine k_callVV (qb := 0) [0, 1, 2] [0, 2] [0, 2] [(qm, .inr (6, [.ref qm_w, .ref qm_past, .int o_3, .ref qm_images, .int m_filled, .ref qm_text, .int m_length, .ref qm_may, .ref qm_least, .ref qm_isCarried, .ref qm_list, .ref qm_nodes, .int m_listMany, .int m_went, .int m_cost, .int m_cause, .int m_looks, .int m_isSent, .int m_isOld, .ref qm_kept, .ref qm_keptLow, .ref qm_keptHigh, .int m_keptMany, .ref qm_keptNodes, .ref qm_numbers, .ref qm_sums, .ref qm_commands, .int m_commandMany, .ref qm_held])), (qm_past, .inl (cI, 744, .inl o_2))] (As := []) (rest := []) ⟨hx, hb, hml, hown, hts⟩ hT hZ hA hP hD hS (c_X6_remember l D cI cZ cN aK aV qm qm_w qm_past qm_images qm_text qm_may qm_least qm_isCarried qm_list qm_nodes qm_kept qm_keptLow qm_keptHigh qm_keptNodes qm_numbers qm_sums qm_commands qm_held m_w m_past m_pastMany m_filled m_length m_listMany m_went m_cost m_cause m_looks m_isSent m_isOld m_keptMany m_commandMany o_2 o_3 hc_4) ⟨callB_of 0 hts (k_good u_816) rfl rfl rfl (hu _ u_51) (hu _ u_813) (by decide +kernel) ⟨Nat.le_of_ble_eq_true rfl, Nat.le_of_ble_eq_true rfl⟩, hu _ u_815, hu _ u_18⟩ rfl rfl rfl (by decide) (by decide) (by decide) rfl rfl rfl rfl hl.1 rfl (Nat.le_of_ble_eq_true rfl) dX6_setRoom_13 (fun H locs hP hD hS => ?_)
    have hP : va_P D vwCl [(qm, .inr (6, [.ref qm_w, .ref qm_past, .int o_3, .ref qm_images, .int m_filled, .ref qm_text, .int m_length, .ref qm_may, .ref qm_least, .ref qm_isCarried, .ref qm_list, .ref qm_nodes, .int m_listMany, .int m_went, .int m_cost, .int m_cause, .int m_looks, .int m_isSent, .int m_isOld, .ref qm_kept, .ref qm_keptLow, .ref qm_keptHigh, .int m_keptMany, .ref qm_keptNodes, .ref qm_numbers, .ref qm_sums, .ref qm_commands, .int m_commandMany, .ref qm_held])), (qm_w, .inl (cI, 93, .inl m_w)), (qm_past, .inl (cI, 744, .inl o_2))] H := hP
    have hD : va_D A [(qm, .inr (6, [.ref qm_w, .ref qm_past, .int o_3, .ref qm_images, .int m_filled, .ref qm_text, .int m_length, .ref qm_may, .ref qm_least, .ref qm_isCarried, .ref qm_list, .ref qm_nodes, .int m_listMany, .int m_went, .int m_cost, .int m_cause, .int m_looks, .int m_isSent, .int m_isOld, .ref qm_kept, .ref qm_keptLow, .ref qm_keptHigh, .int m_keptMany, .ref qm_keptNodes, .ref qm_numbers, .ref qm_sums, .ref qm_commands, .int m_commandMany, .ref qm_held])), (qm_w, .inl (cI, 93, .inl m_w)), (qm_past, .inl (cI, 744, .inl o_2))] := hD
    refine lv_aload_n hx hb dX6_setRoom_16 rfl (lv_at hl 0 rfl) ?_
    refine va_get (D := D) (ci := 6) (v := .ref qm_w) (C := RX6) (T := TX6) (N := 29) hx hb hu k_iX6 hown hK hP 0 rfl rfl 0 (by decide) (hu _ u_718) (fun _ h9 => h9) rfl dX6_setRoom_17 ?_
    refine lv_iconst (v := (2 : Int32)) hx hb dX6_setRoom_20 (by decide) ?_
    refine va_iald (D := D) hx hb hK hP 1 0 rfl rfl (inb_in (by decide)) dX6_setRoom_21 ?_
    refine lv_istore_n (lv' := [(2, .int (m_w (Int32.toNatClampNeg (2 : Int32)))), (0, .ref qm), (1, .int p1)]) hx hb dX6_setRoom_22 rfl hl (by decide) rfl (fun ls hl => ?_)
    refine lv_aload_n hx hb dX6_setRoom_23 rfl (lv_at hl 1 rfl) ?_
    refine va_get (D := D) (ci := 6) (v := .ref qm_w) (C := RX6) (T := TX6) (N := 29) hx hb hu k_iX6 hown hK hP 0 rfl rfl 0 (by decide) (hu _ u_718) (fun _ h9 => h9) rfl dX6_setRoom_24 ?_
    refine lv_iconst (v := (2 : Int32)) hx hb dX6_setRoom_27 (by decide) ?_
    refine lv_iload_n hx hb dX6_setRoom_28 rfl (lv_at hl 2 rfl) ?_
    refine va_iast (D := D) hx hb hK hP hD hS 1 0 rfl rfl (inb_in (by decide)) dX6_setRoom_29 (fun H locs hP hD hS => ?_)
    have hP : va_P D vwCl [(qm, .inr (6, [.ref qm_w, .ref qm_past, .int o_3, .ref qm_images, .int m_filled, .ref qm_text, .int m_length, .ref qm_may, .ref qm_least, .ref qm_isCarried, .ref qm_list, .ref qm_nodes, .int m_listMany, .int m_went, .int m_cost, .int m_cause, .int m_looks, .int m_isSent, .int m_isOld, .ref qm_kept, .ref qm_keptLow, .ref qm_keptHigh, .int m_keptMany, .ref qm_keptNodes, .ref qm_numbers, .ref qm_sums, .ref qm_commands, .int m_commandMany, .ref qm_held])), (qm_w, .inl (cI, 93, .inl (upd m_w (Int32.toNatClampNeg (2 : Int32)) p1))), (qm_past, .inl (cI, 744, .inl o_2))] H := hP
    have hD : va_D A [(qm, .inr (6, [.ref qm_w, .ref qm_past, .int o_3, .ref qm_images, .int m_filled, .ref qm_text, .int m_length, .ref qm_may, .ref qm_least, .ref qm_isCarried, .ref qm_list, .ref qm_nodes, .int m_listMany, .int m_went, .int m_cost, .int m_cause, .int m_looks, .int m_isSent, .int m_isOld, .ref qm_kept, .ref qm_keptLow, .ref qm_keptHigh, .int m_keptMany, .ref qm_keptNodes, .ref qm_numbers, .ref qm_sums, .ref qm_commands, .int m_commandMany, .ref qm_held])), (qm_w, .inl (cI, 93, .inl (upd m_w (Int32.toNatClampNeg (2 : Int32)) p1))), (qm_past, .inl (cI, 744, .inl o_2))] := hD
    refine lv_iload_n hx hb dX6_setRoom_30 rfl (lv_at hl 0 rfl) ?_
    have hq := Option.some.inj h
    clear h
    obtain ⟨e0, hq0⟩ := Prod.mk.inj hq
    clear hq
    obtain ⟨e1, hq1⟩ := Prod.mk.inj hq0
    clear hq0
    obtain ⟨e2, hq2⟩ := Prod.mk.inj hq1
    clear hq1
    subst e0
    subst e1
    subst e2
    subst hq2
    exact k_retI hx hb hr hlocks hP hD hS dX6_setRoom_31
  · have h := (if_pos cc_1).symm.trans h
    refine lv_iconst (v := (-1 : Int32)) hx hb dX6_setRoom_10 (by decide) ?_
    have hq := Option.some.inj h
    clear h
    obtain ⟨e0, hq0⟩ := Prod.mk.inj hq
    clear hq
    obtain ⟨e1, hq1⟩ := Prod.mk.inj hq0
    clear hq0
    obtain ⟨e2, hq2⟩ := Prod.mk.inj hq1
    clear hq1
    subst e0
    subst e1
    subst e2
    subst hq2
    exact k_retI hx hb hr hlocks hP hD hS dX6_setRoom_11
def f_X6_undo_b22  : Nat → Int32 → (Nat → Int32) → (Nat → Int32) → Int32 → Int32 → Option (Int32 × (Nat → Int32) × Int32 × Int32)
  | 0, _, _, _, _, _ => none
  | n + 1, x1, m_w, m_past, m_pastMany, m_isOld =>
    if (93 : Int32) ≤ x1 then
      some (m_pastMany, m_w, m_pastMany, (1 : Int32))
    else
      if inb (((93 : Int32) * m_pastMany) + x1) 744 = true then
      if inb x1 93 = true then
      (f_X6_undo_b22 n) (x1 + (1 : Int32)) (upd m_w (Int32.toNatClampNeg x1) (m_past (Int32.toNatClampNeg (((93 : Int32) * m_pastMany) + x1)))) m_past m_pastMany m_isOld
      else none
      else none
def f_X6_undo (m_w : (Nat → Int32)) (m_past : (Nat → Int32)) (m_pastMany : Int32) (m_isOld : Int32) : Option (Int32 × (Nat → Int32) × Int32 × Int32) :=
  if m_pastMany = (0 : Int32) then
    some ((-2 : Int32), m_w, m_pastMany, m_isOld)
  else
    f_X6_undo_b22 1000 (0 : Int32) m_w m_past (m_pastMany - (1 : Int32)) m_isOld
set_option maxHeartbeats 4000000 in
set_option maxRecDepth 100000 in
theorem c_X6_undo (l : Launch) (D : va_G) (cI cZ cN : ClassId) (aK aV : Nat → Nat)  (qm : Nat) (qm_w : Nat) (qm_past : Nat) (qm_images : Nat) (qm_text : Nat) (qm_may : Nat) (qm_least : Nat) (qm_isCarried : Nat) (qm_list : Nat) (qm_nodes : Nat) (qm_kept : Nat) (qm_keptLow : Nat) (qm_keptHigh : Nat) (qm_keptNodes : Nat) (qm_numbers : Nat) (qm_sums : Nat) (qm_commands : Nat) (qm_held : Nat) (m_w : (Nat → Int32)) (m_past : (Nat → Int32)) (m_pastMany : Int32) (m_filled : Int32) (m_length : Int32) (m_listMany : Int32) (m_went : Int32) (m_cost : Int32) (m_cause : Int32) (m_looks : Int32) (m_isSent : Int32) (m_isOld : Int32) (m_keptMany : Int32) (m_commandMany : Int32) (r : Int32) (z_m_w : (Nat → Int32)) (z_m_pastMany : Int32) (z_m_isOld : Int32) (h : f_X6_undo m_w m_past m_pastMany m_isOld = some (r, z_m_w, z_m_pastMany, z_m_isOld)) : CtI l D cI cZ cN aK aV yX6_undo (k_W yX6_undo cX6_undo 2 (some .int)) { frames := 0, cells := 0, slots := 0, locals := 0 } [.ref qm] [(qm, .inr (6, [.ref qm_w, .ref qm_past, .int m_pastMany, .ref qm_images, .int m_filled, .ref qm_text, .int m_length, .ref qm_may, .ref qm_least, .ref qm_isCarried, .ref qm_list, .ref qm_nodes, .int m_listMany, .int m_went, .int m_cost, .int m_cause, .int m_looks, .int m_isSent, .int m_isOld, .ref qm_kept, .ref qm_keptLow, .ref qm_keptHigh, .int m_keptMany, .ref qm_keptNodes, .ref qm_numbers, .ref qm_sums, .ref qm_commands, .int m_commandMany, .ref qm_held])), (qm_w, .inl (cI, 93, .inl m_w)), (qm_past, .inl (cI, 744, .inl m_past))] r [(qm, .inr (6, [.ref qm_w, .ref qm_past, .int z_m_pastMany, .ref qm_images, .int m_filled, .ref qm_text, .int m_length, .ref qm_may, .ref qm_least, .ref qm_isCarried, .ref qm_list, .ref qm_nodes, .int m_listMany, .int m_went, .int m_cost, .int m_cause, .int m_looks, .int m_isSent, .int z_m_isOld, .ref qm_kept, .ref qm_keptLow, .ref qm_keptHigh, .int m_keptMany, .ref qm_keptNodes, .ref qm_numbers, .ref qm_sums, .ref qm_commands, .int m_commandMany, .ref qm_held])), (qm_w, .inl (cI, 93, .inl z_m_w)), (qm_past, .inl (cI, 744, .inl m_past))] := by
  refine k_startI (by decide) (Nat.le_of_ble_eq_true rfl) ?_
  intro p e s m below meth c A ls hx hb hr hml hown hts hlocks hT hZ hA hP hD hS hl
  have hK := hT.1
  have hu : ∀ w ∈ k_U, w.before ([.ref qm] : List Value).toArray s = true := fun w h => hts w (List.mem_cons_of_mem _ h)
  have hown : s.vm.findClass RX6 = some m.cls := hown
  have hl : lv_has ls 2 [(0, .ref qm)] := hl
  unfold f_X6_undo at h
  have w22 : ∀ (n22 : Nat) (x1 : Int32) (m_w : (Nat → Int32)) (m_past : (Nat → Int32)) (m_pastMany : Int32) (m_isOld : Int32) (H : Heap) (locs : List Loc) (ls : Array Slot), va_P D vwCl [(qm, .inr (6, [.ref qm_w, .ref qm_past, .int m_pastMany, .ref qm_images, .int m_filled, .ref qm_text, .int m_length, .ref qm_may, .ref qm_least, .ref qm_isCarried, .ref qm_list, .ref qm_nodes, .int m_listMany, .int m_went, .int m_cost, .int m_cause, .int m_looks, .int m_isSent, .int m_isOld, .ref qm_kept, .ref qm_keptLow, .ref qm_keptHigh, .int m_keptMany, .ref qm_keptNodes, .ref qm_numbers, .ref qm_sums, .ref qm_commands, .int m_commandMany, .ref qm_held])), (qm_w, .inl (cI, 93, .inl m_w)), (qm_past, .inl (cI, 744, .inl m_past))] H → va_D A [(qm, .inr (6, [.ref qm_w, .ref qm_past, .int m_pastMany, .ref qm_images, .int m_filled, .ref qm_text, .int m_length, .ref qm_may, .ref qm_least, .ref qm_isCarried, .ref qm_list, .ref qm_nodes, .int m_listMany, .int m_went, .int m_cost, .int m_cause, .int m_looks, .int m_isSent, .int m_isOld, .ref qm_kept, .ref qm_keptLow, .ref qm_keptHigh, .int m_keptMany, .ref qm_keptNodes, .ref qm_numbers, .ref qm_sums, .ref qm_commands, .int m_commandMany, .ref qm_held])), (qm_w, .inl (cI, 93, .inl m_w)), (qm_past, .inl (cI, 744, .inl m_past))] → va_S A s.heap H locs → lv_has ls 2 [(0, .ref qm), (1, .int x1)] → f_X6_undo_b22 n22 x1 m_w m_past m_pastMany m_isOld = some (r, z_m_w, z_m_pastMany, z_m_isOld) → W p l e { frames := 0, cells := 0, slots := 0, locals := 0 } s m ([.ref qm] : List Value).toArray below meth c H locs 0 0 (MQ below (k_QI D r [(qm, .inr (6, [.ref qm_w, .ref qm_past, .int z_m_pastMany, .ref qm_images, .int m_filled, .ref qm_text, .int m_length, .ref qm_may, .ref qm_least, .ref qm_isCarried, .ref qm_list, .ref qm_nodes, .int m_listMany, .int m_went, .int m_cost, .int m_cause, .int m_looks, .int m_isSent, .int z_m_isOld, .ref qm_kept, .ref qm_keptLow, .ref qm_keptHigh, .int m_keptMany, .ref qm_keptNodes, .ref qm_numbers, .ref qm_sums, .ref qm_commands, .int m_commandMany, .ref qm_held])), (qm_w, .inl (cI, 93, .inl z_m_w)), (qm_past, .inl (cI, 744, .inl m_past))] A) ([.ref qm] : List Value).toArray s 0 0 A) (F0 m 22 ls []) := by
    intro n22
    induction n22 with
    | zero =>
      intro x1 m_w m_past m_pastMany m_isOld H locs ls hP hD hS hl h
      rw [f_X6_undo_b22] at h
      cases h
    | succ n22 ih22 =>
      intro x1 m_w m_past m_pastMany m_isOld H locs ls hP hD hS hl h
      rw [f_X6_undo_b22] at h
      refine lv_iload_n hx hb dX6_undo_22 rfl (lv_at hl 1 rfl) ?_
      refine lv_bipush (v := (93 : Int32)) hx hb dX6_undo_23 (by decide) ?_
      refine lv_icmp_ge (tgt := 54) hx hb dX6_undo_25 (by decide) (fun cc_2 => ?_) (fun cc_2 => ?_)
      · have h := (if_pos cc_2).symm.trans h
        refine lv_aload_n hx hb dX6_undo_54 rfl (lv_at hl 0 rfl) ?_
        refine lv_iconst (v := (1 : Int32)) hx hb dX6_undo_55 (by decide) ?_
        refine va_put (D := D) (ci := 6) (v := .int (1 : Int32)) (ty := .boolean) (C := RX6) (T := TX6) (N := 29) hx hb hu k_iX6 tyX6 tyX6_ok nmX6 hown hK hP hD hS 0 rfl rfl 18 (by decide) (hu _ u_736) (fun _ h9 => h9) rfl (by decide +kernel) rfl rfl (Nat.le_of_ble_eq_true rfl) dX6_undo_56 (fun H locs hP hD hS => ?_)
        have hP : va_P D vwCl [(qm, .inr (6, [.ref qm_w, .ref qm_past, .int m_pastMany, .ref qm_images, .int m_filled, .ref qm_text, .int m_length, .ref qm_may, .ref qm_least, .ref qm_isCarried, .ref qm_list, .ref qm_nodes, .int m_listMany, .int m_went, .int m_cost, .int m_cause, .int m_looks, .int m_isSent, .int (1 : Int32), .ref qm_kept, .ref qm_keptLow, .ref qm_keptHigh, .int m_keptMany, .ref qm_keptNodes, .ref qm_numbers, .ref qm_sums, .ref qm_commands, .int m_commandMany, .ref qm_held])), (qm_w, .inl (cI, 93, .inl m_w)), (qm_past, .inl (cI, 744, .inl m_past))] H := hP
        have hD : va_D A [(qm, .inr (6, [.ref qm_w, .ref qm_past, .int m_pastMany, .ref qm_images, .int m_filled, .ref qm_text, .int m_length, .ref qm_may, .ref qm_least, .ref qm_isCarried, .ref qm_list, .ref qm_nodes, .int m_listMany, .int m_went, .int m_cost, .int m_cause, .int m_looks, .int m_isSent, .int (1 : Int32), .ref qm_kept, .ref qm_keptLow, .ref qm_keptHigh, .int m_keptMany, .ref qm_keptNodes, .ref qm_numbers, .ref qm_sums, .ref qm_commands, .int m_commandMany, .ref qm_held])), (qm_w, .inl (cI, 93, .inl m_w)), (qm_past, .inl (cI, 744, .inl m_past))] := hD
        refine lv_aload_n hx hb dX6_undo_59 rfl (lv_at hl 0 rfl) ?_
        refine va_get (D := D) (ci := 6) (v := .int m_pastMany) (C := RX6) (T := TX6) (N := 29) hx hb hu k_iX6 hown hK hP 0 rfl rfl 2 (by decide) (hu _ u_720) (fun _ h9 => h9) rfl dX6_undo_60 ?_
        have hq := Option.some.inj h
        clear h
        obtain ⟨e0, hq0⟩ := Prod.mk.inj hq
        clear hq
        obtain ⟨e1, hq1⟩ := Prod.mk.inj hq0
        clear hq0
        obtain ⟨e2, hq2⟩ := Prod.mk.inj hq1
        clear hq1
        subst e0
        subst e1
        subst e2
        subst hq2
        exact k_retI hx hb hr hlocks hP hD hS dX6_undo_63
      · have h := (if_neg cc_2).symm.trans h
        refine lv_aload_n hx hb dX6_undo_28 rfl (lv_at hl 0 rfl) ?_
        refine va_get (D := D) (ci := 6) (v := .ref qm_w) (C := RX6) (T := TX6) (N := 29) hx hb hu k_iX6 hown hK hP 0 rfl rfl 0 (by decide) (hu _ u_718) (fun _ h9 => h9) rfl dX6_undo_29 ?_
        refine lv_iload_n hx hb dX6_undo_32 rfl (lv_at hl 1 rfl) ?_
        refine lv_aload_n hx hb dX6_undo_33 rfl (lv_at hl 0 rfl) ?_
        refine va_get (D := D) (ci := 6) (v := .ref qm_past) (C := RX6) (T := TX6) (N := 29) hx hb hu k_iX6 hown hK hP 0 rfl rfl 1 (by decide) (hu _ u_719) (fun _ h9 => h9) rfl dX6_undo_34 ?_
        refine lv_bipush (v := (93 : Int32)) hx hb dX6_undo_37 (by decide) ?_
        refine lv_aload_n hx hb dX6_undo_39 rfl (lv_at hl 0 rfl) ?_
        refine va_get (D := D) (ci := 6) (v := .int m_pastMany) (C := RX6) (T := TX6) (N := 29) hx hb hu k_iX6 hown hK hP 0 rfl rfl 2 (by decide) (hu _ u_720) (fun _ h9 => h9) rfl dX6_undo_40 ?_
        refine lv_imul hx hb dX6_undo_43 ?_
        refine lv_iload_n hx hb dX6_undo_44 rfl (lv_at hl 1 rfl) ?_
        refine lv_iadd hx hb dX6_undo_45 ?_
        obtain ⟨hin_3, h⟩ := ob_if h
        have hin_3 := inb_in hin_3
        refine va_iald (D := D) hx hb hK hP 2 0 rfl rfl hin_3 dX6_undo_46 ?_
        obtain ⟨hin_4, h⟩ := ob_if h
        have hin_4 := inb_in hin_4
        refine va_iast (D := D) hx hb hK hP hD hS 1 0 rfl rfl hin_4 dX6_undo_47 (fun H locs hP hD hS => ?_)
        have hP : va_P D vwCl [(qm, .inr (6, [.ref qm_w, .ref qm_past, .int m_pastMany, .ref qm_images, .int m_filled, .ref qm_text, .int m_length, .ref qm_may, .ref qm_least, .ref qm_isCarried, .ref qm_list, .ref qm_nodes, .int m_listMany, .int m_went, .int m_cost, .int m_cause, .int m_looks, .int m_isSent, .int m_isOld, .ref qm_kept, .ref qm_keptLow, .ref qm_keptHigh, .int m_keptMany, .ref qm_keptNodes, .ref qm_numbers, .ref qm_sums, .ref qm_commands, .int m_commandMany, .ref qm_held])), (qm_w, .inl (cI, 93, .inl (upd m_w (Int32.toNatClampNeg x1) (m_past (Int32.toNatClampNeg (((93 : Int32) * m_pastMany) + x1)))))), (qm_past, .inl (cI, 744, .inl m_past))] H := hP
        have hD : va_D A [(qm, .inr (6, [.ref qm_w, .ref qm_past, .int m_pastMany, .ref qm_images, .int m_filled, .ref qm_text, .int m_length, .ref qm_may, .ref qm_least, .ref qm_isCarried, .ref qm_list, .ref qm_nodes, .int m_listMany, .int m_went, .int m_cost, .int m_cause, .int m_looks, .int m_isSent, .int m_isOld, .ref qm_kept, .ref qm_keptLow, .ref qm_keptHigh, .int m_keptMany, .ref qm_keptNodes, .ref qm_numbers, .ref qm_sums, .ref qm_commands, .int m_commandMany, .ref qm_held])), (qm_w, .inl (cI, 93, .inl (upd m_w (Int32.toNatClampNeg x1) (m_past (Int32.toNatClampNeg (((93 : Int32) * m_pastMany) + x1)))))), (qm_past, .inl (cI, 744, .inl m_past))] := hD
        refine lv_iinc (v := (x1 + (1 : Int32))) (lv' := [(1, .int (x1 + (1 : Int32))), (0, .ref qm)]) hx hb dX6_undo_48 hl (k := 1) rfl rfl (by decide) rfl (fun ls hl => ?_)
        refine lv_goto (tgt := 22) hx hb dX6_undo_51 (by decide) ?_
        exact ih22 (x1 + (1 : Int32)) (upd m_w (Int32.toNatClampNeg x1) (m_past (Int32.toNatClampNeg (((93 : Int32) * m_pastMany) + x1)))) m_past m_pastMany m_isOld _ _ _ hP hD hS (lv_sub hl [1, 0] rfl) h
  refine lv_aload_n hx hb dX6_undo_0 rfl (lv_at hl 0 rfl) ?_
  refine va_get (D := D) (ci := 6) (v := .int m_pastMany) (C := RX6) (T := TX6) (N := 29) hx hb hu k_iX6 hown hK hP 0 rfl rfl 2 (by decide) (hu _ u_720) (fun _ h9 => h9) rfl dX6_undo_1 ?_
  refine lv_if_ne (tgt := 10) hx hb dX6_undo_4 (by decide) (fun cc_1 => ?_) (fun cc_1 => ?_)
  · have h := (if_neg cc_1).symm.trans h
    refine lv_aload_n hx hb dX6_undo_10 rfl (lv_at hl 0 rfl) ?_
    refine lv_dup hx hb dX6_undo_11 rfl ?_
    refine va_get (D := D) (ci := 6) (v := .int m_pastMany) (C := RX6) (T := TX6) (N := 29) hx hb hu k_iX6 hown hK hP 0 rfl rfl 2 (by decide) (hu _ u_720) (fun _ h9 => h9) rfl dX6_undo_12 ?_
    refine lv_iconst (v := (1 : Int32)) hx hb dX6_undo_15 (by decide) ?_
    refine lv_isub hx hb dX6_undo_16 ?_
    refine va_put (D := D) (ci := 6) (v := .int (m_pastMany - (1 : Int32))) (ty := .int) (C := RX6) (T := TX6) (N := 29) hx hb hu k_iX6 tyX6 tyX6_ok nmX6 hown hK hP hD hS 0 rfl rfl 2 (by decide) (hu _ u_720) (fun _ h9 => h9) rfl (by decide +kernel) rfl rfl (Nat.le_of_ble_eq_true rfl) dX6_undo_17 (fun H locs hP hD hS => ?_)
    have hP : va_P D vwCl [(qm, .inr (6, [.ref qm_w, .ref qm_past, .int (m_pastMany - (1 : Int32)), .ref qm_images, .int m_filled, .ref qm_text, .int m_length, .ref qm_may, .ref qm_least, .ref qm_isCarried, .ref qm_list, .ref qm_nodes, .int m_listMany, .int m_went, .int m_cost, .int m_cause, .int m_looks, .int m_isSent, .int m_isOld, .ref qm_kept, .ref qm_keptLow, .ref qm_keptHigh, .int m_keptMany, .ref qm_keptNodes, .ref qm_numbers, .ref qm_sums, .ref qm_commands, .int m_commandMany, .ref qm_held])), (qm_w, .inl (cI, 93, .inl m_w)), (qm_past, .inl (cI, 744, .inl m_past))] H := hP
    have hD : va_D A [(qm, .inr (6, [.ref qm_w, .ref qm_past, .int (m_pastMany - (1 : Int32)), .ref qm_images, .int m_filled, .ref qm_text, .int m_length, .ref qm_may, .ref qm_least, .ref qm_isCarried, .ref qm_list, .ref qm_nodes, .int m_listMany, .int m_went, .int m_cost, .int m_cause, .int m_looks, .int m_isSent, .int m_isOld, .ref qm_kept, .ref qm_keptLow, .ref qm_keptHigh, .int m_keptMany, .ref qm_keptNodes, .ref qm_numbers, .ref qm_sums, .ref qm_commands, .int m_commandMany, .ref qm_held])), (qm_w, .inl (cI, 93, .inl m_w)), (qm_past, .inl (cI, 744, .inl m_past))] := hD
    refine lv_iconst (v := (0 : Int32)) hx hb dX6_undo_20 (by decide) ?_
    refine lv_istore_n (lv' := [(1, .int (0 : Int32)), (0, .ref qm)]) hx hb dX6_undo_21 rfl hl (by decide) rfl (fun ls hl => ?_)
    exact w22 1000 (0 : Int32) m_w m_past (m_pastMany - (1 : Int32)) m_isOld _ _ _ hP hD hS (lv_sub hl [1, 0] rfl) h
  · have h := (if_pos cc_1).symm.trans h
    refine lv_bipush (v := (-2 : Int32)) hx hb dX6_undo_7 (by decide) ?_
    have hq := Option.some.inj h
    clear h
    obtain ⟨e0, hq0⟩ := Prod.mk.inj hq
    clear hq
    obtain ⟨e1, hq1⟩ := Prod.mk.inj hq0
    clear hq0
    obtain ⟨e2, hq2⟩ := Prod.mk.inj hq1
    clear hq1
    subst e0
    subst e1
    subst e2
    subst hq2
    exact k_retI hx hb hr hlocks hP hD hS dX6_undo_9
