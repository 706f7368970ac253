def f_X6_write (p1 : Int32) (m_text : (Nat → Int32)) (m_length : Int32) : Option (Int32 × (Nat → Int32) × Int32) :=
  if (f_X6_isIn p1 (32 : Int32) (126 : Int32)) = (0 : Int32) then
    some ((-1 : Int32), m_text, m_length)
  else
    if m_length = (80 : Int32) then
      some ((-3 : Int32), m_text, m_length)
    else
      if inb m_length 80 = true then
      some ((m_length + (1 : Int32)), (upd m_text (Int32.toNatClampNeg m_length) p1), (m_length + (1 : Int32)))
      else none
set_option maxHeartbeats 4000000 in
set_option maxRecDepth 100000 in
theorem c_X6_write (l : Launch) (D : va_G) (cI cZ cN : ClassId) (aK aV : Nat → Nat)  (qm : Nat) (qm_w : Nat) (qm_past : Nat) (qm_images : Nat) (qm_text : Nat) (qm_may : Nat) (qm_least : Nat) (qm_isCarried : Nat) (qm_list : Nat) (qm_nodes : Nat) (qm_kept : Nat) (qm_keptLow : Nat) (qm_keptHigh : Nat) (qm_keptNodes : Nat) (qm_numbers : Nat) (qm_sums : Nat) (qm_commands : Nat) (qm_held : Nat) (m_pastMany : Int32) (m_filled : Int32) (m_text : (Nat → Int32)) (m_length : Int32) (m_listMany : Int32) (m_went : Int32) (m_cost : Int32) (m_cause : Int32) (m_looks : Int32) (m_isSent : Int32) (m_isOld : Int32) (m_keptMany : Int32) (m_commandMany : Int32) (p1 : Int32) (r : Int32) (z_m_text : (Nat → Int32)) (z_m_length : Int32) (h : f_X6_write p1 m_text m_length = some (r, z_m_text, z_m_length)) : CtI l D cI cZ cN aK aV yX6_write (k_W yX6_write cX6_write 2 (some .int)) { frames := 1, cells := 0, slots := 0, locals := 22 } [.ref qm, .int p1] [(qm, .inr (6, [.ref qm_w, .ref qm_past, .int m_pastMany, .ref qm_images, .int m_filled, .ref qm_text, .int m_length, .ref qm_may, .ref qm_least, .ref qm_isCarried, .ref qm_list, .ref qm_nodes, .int m_listMany, .int m_went, .int m_cost, .int m_cause, .int m_looks, .int m_isSent, .int m_isOld, .ref qm_kept, .ref qm_keptLow, .ref qm_keptHigh, .int m_keptMany, .ref qm_keptNodes, .ref qm_numbers, .ref qm_sums, .ref qm_commands, .int m_commandMany, .ref qm_held])), (qm_text, .inl (cI, 80, .inl m_text))] r [(qm, .inr (6, [.ref qm_w, .ref qm_past, .int m_pastMany, .ref qm_images, .int m_filled, .ref qm_text, .int z_m_length, .ref qm_may, .ref qm_least, .ref qm_isCarried, .ref qm_list, .ref qm_nodes, .int m_listMany, .int m_went, .int m_cost, .int m_cause, .int m_looks, .int m_isSent, .int m_isOld, .ref qm_kept, .ref qm_keptLow, .ref qm_keptHigh, .int m_keptMany, .ref qm_keptNodes, .ref qm_numbers, .ref qm_sums, .ref qm_commands, .int m_commandMany, .ref qm_held])), (qm_text, .inl (cI, 80, .inl z_m_text))] := by
  refine k_startI (by decide) (Nat.le_of_ble_eq_true rfl) ?_
  intro p e s m below meth c A ls hx hb hr hml hown hts hlocks hT hZ hA hP hD hS hl
  have hK := hT.1
  have hu : ∀ w ∈ k_U, w.before ([.ref qm, .int p1] : List Value).toArray s = true := fun w h => hts w (List.mem_cons_of_mem _ h)
  have hown : s.vm.findClass RX6 = some m.cls := hown
  have hl : lv_has ls 2 [(0, .ref qm), (1, .int p1)] := hl
  unfold f_X6_write at h
  refine lv_iload_n hx hb dX6_write_0 rfl (lv_at hl 1 rfl) ?_
  refine lv_bipush (v := (32 : Int32)) hx hb dX6_write_1 (by decide) ?_
  refine lv_bipush (v := (126 : Int32)) hx hb dX6_write_3 (by decide) ?_
  refine k_call0 (As := [.int p1, .int (32 : Int32), .int (126 : Int32)]) (rest := []) ⟨hx, hb, hml, hown, hts⟩ hT hZ hA hP hD hS (c_X6_isIn l D cI cZ cN aK aV p1 (32 : Int32) (126 : Int32) _ rfl) ⟨callB_of 3 hts (k_good u_812) rfl rfl rfl (hu _ u_51) (hu _ u_810) (by decide +kernel) ⟨Nat.le_of_ble_eq_true rfl, Nat.le_of_ble_eq_true rfl⟩, hu _ u_811⟩ rfl hl.1 rfl (Nat.le_of_ble_eq_true rfl) dX6_write_5 (fun H locs hP hD hS => ?_)
  refine lv_if_ne (tgt := 13) hx hb dX6_write_8 (by decide) (fun cc_1 => ?_) (fun cc_1 => ?_)
  · have h := (if_neg cc_1).symm.trans h
    refine lv_aload_n hx hb dX6_write_13 rfl (lv_at hl 0 rfl) ?_
    refine va_get (D := D) (ci := 6) (v := .int m_length) (C := RX6) (T := TX6) (N := 29) hx hb hu k_iX6 hown hK hP 0 rfl rfl 6 (by decide) (hu _ u_724) (fun _ h9 => h9) rfl dX6_write_14 ?_
    refine lv_bipush (v := (80 : Int32)) hx hb dX6_write_17 (by decide) ?_
    refine lv_icmp_ne (tgt := 25) hx hb dX6_write_19 (by decide) (fun cc_2 => ?_) (fun cc_2 => ?_)
    · have h := (if_neg cc_2).symm.trans h
      refine lv_aload_n hx hb dX6_write_25 rfl (lv_at hl 0 rfl) ?_
      refine va_get (D := D) (ci := 6) (v := .ref qm_text) (C := RX6) (T := TX6) (N := 29) hx hb hu k_iX6 hown hK hP 0 rfl rfl 5 (by decide) (hu _ u_723) (fun _ h9 => h9) rfl dX6_write_26 ?_
      refine lv_aload_n hx hb dX6_write_29 rfl (lv_at hl 0 rfl) ?_
      refine va_get (D := D) (ci := 6) (v := .int m_length) (C := RX6) (T := TX6) (N := 29) hx hb hu k_iX6 hown hK hP 0 rfl rfl 6 (by decide) (hu _ u_724) (fun _ h9 => h9) rfl dX6_write_30 ?_
      refine lv_iload_n hx hb dX6_write_33 rfl (lv_at hl 1 rfl) ?_
      obtain ⟨hin_3, h⟩ := ob_if h
      have hin_3 := inb_in hin_3
      refine va_iast (D := D) hx hb hK hP hD hS 1 0 rfl rfl hin_3 dX6_write_34 (fun H locs hP hD hS => ?_)
      have hP : va_P D vwCl [(qm, .inr (6, [.ref qm_w, .ref qm_past, .int m_pastMany, .ref qm_images, .int m_filled, .ref qm_text, .int m_length, .ref qm_may, .ref qm_least, .ref qm_isCarried, .ref qm_list, .ref qm_nodes, .int m_listMany, .int m_went, .int m_cost, .int m_cause, .int m_looks, .int m_isSent, .int m_isOld, .ref qm_kept, .ref qm_keptLow, .ref qm_keptHigh, .int m_keptMany, .ref qm_keptNodes, .ref qm_numbers, .ref qm_sums, .ref qm_commands, .int m_commandMany, .ref qm_held])), (qm_text, .inl (cI, 80, .inl (upd m_text (Int32.toNatClampNeg m_length) p1)))] H := hP
      have hD : va_D A [(qm, .inr (6, [.ref qm_w, .ref qm_past, .int m_pastMany, .ref qm_images, .int m_filled, .ref qm_text, .int m_length, .ref qm_may, .ref qm_least, .ref qm_isCarried, .ref qm_list, .ref qm_nodes, .int m_listMany, .int m_went, .int m_cost, .int m_cause, .int m_looks, .int m_isSent, .int m_isOld, .ref qm_kept, .ref qm_keptLow, .ref qm_keptHigh, .int m_keptMany, .ref qm_keptNodes, .ref qm_numbers, .ref qm_sums, .ref qm_commands, .int m_commandMany, .ref qm_held])), (qm_text, .inl (cI, 80, .inl (upd m_text (Int32.toNatClampNeg m_length) p1)))] := hD
      refine lv_aload_n hx hb dX6_write_35 rfl (lv_at hl 0 rfl) ?_
      refine lv_dup hx hb dX6_write_36 rfl ?_
      refine va_get (D := D) (ci := 6) (v := .int m_length) (C := RX6) (T := TX6) (N := 29) hx hb hu k_iX6 hown hK hP 0 rfl rfl 6 (by decide) (hu _ u_724) (fun _ h9 => h9) rfl dX6_write_37 ?_
      refine lv_iconst (v := (1 : Int32)) hx hb dX6_write_40 (by decide) ?_
      refine lv_iadd hx hb dX6_write_41 ?_
      refine va_put (D := D) (ci := 6) (v := .int (m_length + (1 : Int32))) (ty := .int) (C := RX6) (T := TX6) (N := 29) hx hb hu k_iX6 tyX6 tyX6_ok nmX6 hown hK hP hD hS 0 rfl rfl 6 (by decide) (hu _ u_724) (fun _ h9 => h9) rfl (by decide +kernel) rfl rfl (Nat.le_of_ble_eq_true rfl) dX6_write_42 (fun H locs hP hD hS => ?_)
      have hP : va_P D vwCl [(qm, .inr (6, [.ref qm_w, .ref qm_past, .int m_pastMany, .ref qm_images, .int m_filled, .ref qm_text, .int (m_length + (1 : Int32)), .ref qm_may, .ref qm_least, .ref qm_isCarried, .ref qm_list, .ref qm_nodes, .int m_listMany, .int m_went, .int m_cost, .int m_cause, .int m_looks, .int m_isSent, .int m_isOld, .ref qm_kept, .ref qm_keptLow, .ref qm_keptHigh, .int m_keptMany, .ref qm_keptNodes, .ref qm_numbers, .ref qm_sums, .ref qm_commands, .int m_commandMany, .ref qm_held])), (qm_text, .inl (cI, 80, .inl (upd m_text (Int32.toNatClampNeg m_length) p1)))] H := hP
      have hD : va_D A [(qm, .inr (6, [.ref qm_w, .ref qm_past, .int m_pastMany, .ref qm_images, .int m_filled, .ref qm_text, .int (m_length + (1 : Int32)), .ref qm_may, .ref qm_least, .ref qm_isCarried, .ref qm_list, .ref qm_nodes, .int m_listMany, .int m_went, .int m_cost, .int m_cause, .int m_looks, .int m_isSent, .int m_isOld, .ref qm_kept, .ref qm_keptLow, .ref qm_keptHigh, .int m_keptMany, .ref qm_keptNodes, .ref qm_numbers, .ref qm_sums, .ref qm_commands, .int m_commandMany, .ref qm_held])), (qm_text, .inl (cI, 80, .inl (upd m_text (Int32.toNatClampNeg m_length) p1)))] := hD
      refine lv_aload_n hx hb dX6_write_45 rfl (lv_at hl 0 rfl) ?_
      refine va_get (D := D) (ci := 6) (v := .int (m_length + (1 : Int32))) (C := RX6) (T := TX6) (N := 29) hx hb hu k_iX6 hown hK hP 0 rfl rfl 6 (by decide) (hu _ u_724) (fun _ h9 => h9) rfl dX6_write_46 ?_
      have hq := Option.some.inj h
      clear h
      obtain ⟨e0, hq0⟩ := Prod.mk.inj hq
      clear hq
      obtain ⟨e1, hq1⟩ := Prod.mk.inj hq0
      clear hq0
      subst e0
      subst e1
      subst hq1
      exact k_retI hx hb hr hlocks hP hD hS dX6_write_49
    · have h := (if_pos cc_2).symm.trans h
      refine lv_bipush (v := (-3 : Int32)) hx hb dX6_write_22 (by decide) ?_
      have hq := Option.some.inj h
      clear h
      obtain ⟨e0, hq0⟩ := Prod.mk.inj hq
      clear hq
      obtain ⟨e1, hq1⟩ := Prod.mk.inj hq0
      clear hq0
      subst e0
      subst e1
      subst hq1
      exact k_retI hx hb hr hlocks hP hD hS dX6_write_24
  · have h := (if_pos cc_1).symm.trans h
    refine lv_iconst (v := (-1 : Int32)) hx hb dX6_write_11 (by decide) ?_
    have hq := Option.some.inj h
    clear h
    obtain ⟨e0, hq0⟩ := Prod.mk.inj hq
    clear hq
    obtain ⟨e1, hq1⟩ := Prod.mk.inj hq0
    clear hq0
    subst e0
    subst e1
    subst hq1
    exact k_retI hx hb hr hlocks hP hD hS dX6_write_12
def f_X6_wipe (m_length : Int32) : Int32 × Int32 :=
  (m_length, (0 : Int32))
set_option maxHeartbeats 4000000 in
set_option maxRecDepth 100000 in
theorem c_X6_wipe (l : Launch) (D : va_G) (cI cZ cN : ClassId) (aK aV : Nat → Nat)  (qm : Nat) (qm_w : Nat) (qm_past : Nat) (qm_images : Nat) (qm_text : Nat) (qm_may : Nat) (qm_least : Nat) (qm_isCarried : Nat) (qm_list : Nat) (qm_nodes : Nat) (qm_kept : Nat) (qm_keptLow : Nat) (qm_keptHigh : Nat) (qm_keptNodes : Nat) (qm_numbers : Nat) (qm_sums : Nat) (qm_commands : Nat) (qm_held : Nat) (m_pastMany : Int32) (m_filled : Int32) (m_length : Int32) (m_listMany : Int32) (m_went : Int32) (m_cost : Int32) (m_cause : Int32) (m_looks : Int32) (m_isSent : Int32) (m_isOld : Int32) (m_keptMany : Int32) (m_commandMany : Int32) (r : Int32) (z_m_length : Int32) (h : f_X6_wipe m_length = (r, z_m_length)) : CtI l D cI cZ cN aK aV yX6_wipe (k_W yX6_wipe cX6_wipe 2 (some .int)) { frames := 0, cells := 0, slots := 0, locals := 0 } [.ref qm] [(qm, .inr (6, [.ref qm_w, .ref qm_past, .int m_pastMany, .ref qm_images, .int m_filled, .ref qm_text, .int m_length, .ref qm_may, .ref qm_least, .ref qm_isCarried, .ref qm_list, .ref qm_nodes, .int m_listMany, .int m_went, .int m_cost, .int m_cause, .int m_looks, .int m_isSent, .int m_isOld, .ref qm_kept, .ref qm_keptLow, .ref qm_keptHigh, .int m_keptMany, .ref qm_keptNodes, .ref qm_numbers, .ref qm_sums, .ref qm_commands, .int m_commandMany, .ref qm_held]))] r [(qm, .inr (6, [.ref qm_w, .ref qm_past, .int m_pastMany, .ref qm_images, .int m_filled, .ref qm_text, .int z_m_length, .ref qm_may, .ref qm_least, .ref qm_isCarried, .ref qm_list, .ref qm_nodes, .int m_listMany, .int m_went, .int m_cost, .int m_cause, .int m_looks, .int m_isSent, .int m_isOld, .ref qm_kept, .ref qm_keptLow, .ref qm_keptHigh, .int m_keptMany, .ref qm_keptNodes, .ref qm_numbers, .ref qm_sums, .ref qm_commands, .int m_commandMany, .ref qm_held]))] := by
  refine k_startI (by decide) (Nat.le_of_ble_eq_true rfl) ?_
  intro p e s m below meth c A ls hx hb hr hml hown hts hlocks hT hZ hA hP hD hS hl
  have hK := hT.1
  have hu : ∀ w ∈ k_U, w.before ([.ref qm] : List Value).toArray s = true := fun w h => hts w (List.mem_cons_of_mem _ h)
  have hown : s.vm.findClass RX6 = some m.cls := hown
  have hl : lv_has ls 2 [(0, .ref qm)] := hl
  unfold f_X6_wipe at h
  refine lv_aload_n hx hb dX6_wipe_0 rfl (lv_at hl 0 rfl) ?_
  refine va_get (D := D) (ci := 6) (v := .int m_length) (C := RX6) (T := TX6) (N := 29) hx hb hu k_iX6 hown hK hP 0 rfl rfl 6 (by decide) (hu _ u_724) (fun _ h9 => h9) rfl dX6_wipe_1 ?_
  refine lv_istore_n (lv' := [(1, .int m_length), (0, .ref qm)]) hx hb dX6_wipe_4 rfl hl (by decide) rfl (fun ls hl => ?_)
  refine lv_aload_n hx hb dX6_wipe_5 rfl (lv_at hl 1 rfl) ?_
  refine lv_iconst (v := (0 : Int32)) hx hb dX6_wipe_6 (by decide) ?_
  refine va_put (D := D) (ci := 6) (v := .int (0 : Int32)) (ty := .int) (C := RX6) (T := TX6) (N := 29) hx hb hu k_iX6 tyX6 tyX6_ok nmX6 hown hK hP hD hS 0 rfl rfl 6 (by decide) (hu _ u_724) (fun _ h9 => h9) rfl (by decide +kernel) rfl rfl (Nat.le_of_ble_eq_true rfl) dX6_wipe_7 (fun H locs hP hD hS => ?_)
  have hP : va_P D vwCl [(qm, .inr (6, [.ref qm_w, .ref qm_past, .int m_pastMany, .ref qm_images, .int m_filled, .ref qm_text, .int (0 : Int32), .ref qm_may, .ref qm_least, .ref qm_isCarried, .ref qm_list, .ref qm_nodes, .int m_listMany, .int m_went, .int m_cost, .int m_cause, .int m_looks, .int m_isSent, .int m_isOld, .ref qm_kept, .ref qm_keptLow, .ref qm_keptHigh, .int m_keptMany, .ref qm_keptNodes, .ref qm_numbers, .ref qm_sums, .ref qm_commands, .int m_commandMany, .ref qm_held]))] H := hP
  have hD : va_D A [(qm, .inr (6, [.ref qm_w, .ref qm_past, .int m_pastMany, .ref qm_images, .int m_filled, .ref qm_text, .int (0 : Int32), .ref qm_may, .ref qm_least, .ref qm_isCarried, .ref qm_list, .ref qm_nodes, .int m_listMany, .int m_went, .int m_cost, .int m_cause, .int m_looks, .int m_isSent, .int m_isOld, .ref qm_kept, .ref qm_keptLow, .ref qm_keptHigh, .int m_keptMany, .ref qm_keptNodes, .ref qm_numbers, .ref qm_sums, .ref qm_commands, .int m_commandMany, .ref qm_held]))] := hD
  refine lv_iload_n hx hb dX6_wipe_10 rfl (lv_at hl 0 rfl) ?_
  have hq := h
  clear h
  obtain ⟨e0, hq0⟩ := Prod.mk.inj hq
  clear hq
  subst e0
  subst hq0
  exact k_retI hx hb hr hlocks hP hD hS dX6_wipe_11
def f_X6_is (p1 : Int32) (p2 : Int32) (p3 : Int32) (p4 : Int32) (m_text : (Nat → Int32)) : Option (Int32) :=
  if inb p1 80 = true then
  if (m_text (Int32.toNatClampNeg p1)) = p2 then
    if inb (p1 + (1 : Int32)) 80 = true then
    if (m_text (Int32.toNatClampNeg (p1 + (1 : Int32)))) = p3 then
      if inb (p1 + (2 : Int32)) 80 = true then
      if (m_text (Int32.toNatClampNeg (p1 + (2 : Int32)))) = p4 then
        some ((1 : Int32))
      else
        some ((0 : Int32))
      else none
    else
      some ((0 : Int32))
    else none
  else
    some ((0 : Int32))
  else none
set_option maxHeartbeats 4000000 in
set_option maxRecDepth 100000 in
theorem c_X6_is (l : Launch) (D : va_G) (cI cZ cN : ClassId) (aK aV : Nat → Nat)  (qm : Nat) (qm_w : Nat) (qm_past : Nat) (qm_images : Nat) (qm_text : Nat) (qm_may : Nat) (qm_least : Nat) (qm_isCarried : Nat) (qm_list : Nat) (qm_nodes : Nat) (qm_kept : Nat) (qm_keptLow : Nat) (qm_keptHigh : Nat) (qm_keptNodes : Nat) (qm_numbers : Nat) (qm_sums : Nat) (qm_commands : Nat) (qm_held : Nat) (m_pastMany : Int32) (m_filled : Int32) (m_text : (Nat → Int32)) (m_length : Int32) (m_listMany : Int32) (m_went : Int32) (m_cost : Int32) (m_cause : Int32) (m_looks : Int32) (m_isSent : Int32) (m_isOld : Int32) (m_keptMany : Int32) (m_commandMany : Int32) (p1 p2 p3 p4 : Int32) (r : Int32) (h : f_X6_is p1 p2 p3 p4 m_text = some r) : CtI l D cI cZ cN aK aV yX6_is (k_W yX6_is cX6_is 5 (some .boolean)) { frames := 0, cells := 0, slots := 0, locals := 0 } [.ref qm, .int p1, .int p2, .int p3, .int p4] [(qm, .inr (6, [.ref qm_w, .ref qm_past, .int m_pastMany, .ref qm_images, .int m_filled, .ref qm_text, .int m_length, .ref qm_may, .ref qm_least, .ref qm_isCarried, .ref qm_list, .ref qm_nodes, .int m_listMany, .int m_went, .int m_cost, .int m_cause, .int m_looks, .int m_isSent, .int m_isOld, .ref qm_kept, .ref qm_keptLow, .ref qm_keptHigh, .int m_keptMany, .ref qm_keptNodes, .ref qm_numbers, .ref qm_sums, .ref qm_commands, .int m_commandMany, .ref qm_held])), (qm_text, .inl (cI, 80, .inl m_text))] r [(qm, .inr (6, [.ref qm_w, .ref qm_past, .int m_pastMany, .ref qm_images, .int m_filled, .ref qm_text, .int m_length, .ref qm_may, .ref qm_least, .ref qm_isCarried, .ref qm_list, .ref qm_nodes, .int m_listMany, .int m_went, .int m_cost, .int m_cause, .int m_looks, .int m_isSent, .int m_isOld, .ref qm_kept, .ref qm_keptLow, .ref qm_keptHigh, .int m_keptMany, .ref qm_keptNodes, .ref qm_numbers, .ref qm_sums, .ref qm_commands, .int m_commandMany, .ref qm_held])), (qm_text, .inl (cI, 80, .inl m_text))] := by
  refine k_startI (by decide) (Nat.le_of_ble_eq_true rfl) ?_
  intro p e s m below meth c A ls hx hb hr hml hown hts hlocks hT hZ hA hP hD hS hl
  have hK := hT.1
  have hu : ∀ w ∈ k_U, w.before ([.ref qm, .int p1, .int p2, .int p3, .int p4] : List Value).toArray s = true := fun w h => hts w (List.mem_cons_of_mem _ h)
  have hown : s.vm.findClass RX6 = some m.cls := hown
  have hl : lv_has ls 5 [(0, .ref qm), (1, .int p1), (2, .int p2), (3, .int p3), (4, .int p4)] := hl
  unfold f_X6_is at h
  refine lv_aload_n hx hb dX6_is_0 rfl (lv_at hl 0 rfl) ?_
  refine va_get (D := D) (ci := 6) (v := .ref qm_text) (C := RX6) (T := TX6) (N := 29) hx hb hu k_iX6 hown hK hP 0 rfl rfl 5 (by decide) (hu _ u_723) (fun _ h9 => h9) rfl dX6_is_1 ?_
  refine lv_iload_n hx hb dX6_is_4 rfl (lv_at hl 1 rfl) ?_
  obtain ⟨hin_1, h⟩ := ob_if h
  have hin_1 := inb_in hin_1
  refine va_iald (D := D) hx hb hK hP 1 0 rfl rfl hin_1 dX6_is_5 ?_
  refine lv_iload_n hx hb dX6_is_6 rfl (lv_at hl 2 rfl) ?_
  refine lv_icmp_ne (tgt := 39) hx hb dX6_is_7 (by decide) (fun cc_2 => ?_) (fun cc_2 => ?_)
  · have h := (if_neg cc_2).symm.trans h
    refine lv_iconst (v := (0 : Int32)) hx hb dX6_is_39 (by decide) ?_
    have hq := Option.some.inj h
    clear h
    subst hq
    exact k_retZ hx hb hr hlocks (Or.inl rfl) hP hD hS dX6_is_40
  · have h := (if_pos cc_2).symm.trans h
    refine lv_aload_n hx hb dX6_is_10 rfl (lv_at hl 0 rfl) ?_
    refine va_get (D := D) (ci := 6) (v := .ref qm_text) (C := RX6) (T := TX6) (N := 29) hx hb hu k_iX6 hown hK hP 0 rfl rfl 5 (by decide) (hu _ u_723) (fun _ h9 => h9) rfl dX6_is_11 ?_
    refine lv_iload_n hx hb dX6_is_14 rfl (lv_at hl 1 rfl) ?_
    refine lv_iconst (v := (1 : Int32)) hx hb dX6_is_15 (by decide) ?_
    refine lv_iadd hx hb dX6_is_16 ?_
    obtain ⟨hin_3, h⟩ := ob_if h
    have hin_3 := inb_in hin_3
    refine va_iald (D := D) hx hb hK hP 1 0 rfl rfl hin_3 dX6_is_17 ?_
    refine lv_iload_n hx hb dX6_is_18 rfl (lv_at hl 3 rfl) ?_
    refine lv_icmp_ne (tgt := 39) hx hb dX6_is_19 (by decide) (fun cc_4 => ?_) (fun cc_4 => ?_)
    · have h := (if_neg cc_4).symm.trans h
      refine lv_iconst (v := (0 : Int32)) hx hb dX6_is_39 (by decide) ?_
      have hq := Option.some.inj h
      clear h
      subst hq
      exact k_retZ hx hb hr hlocks (Or.inl rfl) hP hD hS dX6_is_40
    · have h := (if_pos cc_4).symm.trans h
      refine lv_aload_n hx hb dX6_is_22 rfl (lv_at hl 0 rfl) ?_
      refine va_get (D := D) (ci := 6) (v := .ref qm_text) (C := RX6) (T := TX6) (N := 29) hx hb hu k_iX6 hown hK hP 0 rfl rfl 5 (by decide) (hu _ u_723) (fun _ h9 => h9) rfl dX6_is_23 ?_
      refine lv_iload_n hx hb dX6_is_26 rfl (lv_at hl 1 rfl) ?_
      refine lv_iconst (v := (2 : Int32)) hx hb dX6_is_27 (by decide) ?_
      refine lv_iadd hx hb dX6_is_28 ?_
      obtain ⟨hin_5, h⟩ := ob_if h
      have hin_5 := inb_in hin_5
      refine va_iald (D := D) hx hb hK hP 1 0 rfl rfl hin_5 dX6_is_29 ?_
      refine lv_iload hx hb dX6_is_30 (lv_at hl 4 rfl) ?_
      refine lv_icmp_ne (tgt := 39) hx hb dX6_is_32 (by decide) (fun cc_6 => ?_) (fun cc_6 => ?_)
      · have h := (if_neg cc_6).symm.trans h
        refine lv_iconst (v := (0 : Int32)) hx hb dX6_is_39 (by decide) ?_
        have hq := Option.some.inj h
        clear h
        subst hq
        exact k_retZ hx hb hr hlocks (Or.inl rfl) hP hD hS dX6_is_40
      · have h := (if_pos cc_6).symm.trans h
        refine lv_iconst (v := (1 : Int32)) hx hb dX6_is_35 (by decide) ?_
        refine lv_goto (tgt := 40) hx hb dX6_is_36 (by decide) ?_
        have hq := Option.some.inj h
        clear h
        subst hq
        exact k_retZ hx hb hr hlocks (Or.inr rfl) hP hD hS dX6_is_40
def f_X6_kindOf_b136  (x1 : Int32) (m_text : (Nat → Int32)) : Option (Int32) :=
  (f_X6_is x1 (115 : Int32) (105 : Int32) (122 : Int32) m_text).bind fun r_26 =>
  if r_26 = (0 : Int32) then
    some ((-9 : Int32))
  else
    if inb (x1 + (3 : Int32)) 80 = true then
    if (m_text (Int32.toNatClampNeg (x1 + (3 : Int32)))) = (101 : Int32) then
      some ((4 : Int32))
    else
      some ((-9 : Int32))
    else none
def f_X6_kindOf (p1 : Int32) (p2 : Int32) (m_text : (Nat → Int32)) : Option (Int32) :=
  if p2 = (p1 + (1 : Int32)) then
    if inb p1 80 = true then
    if (f_X6_isIn (m_text (Int32.toNatClampNeg p1)) (97 : Int32) (105 : Int32)) = (0 : Int32) then
      if (f_X6_isIn (m_text (Int32.toNatClampNeg p1)) (49 : Int32) (57 : Int32)) = (0 : Int32) then
        some ((-9 : Int32))
      else
        some ((21 : Int32))
    else
      some ((20 : Int32))
    else none
  else
    if (p2 - p1) = (3 : Int32) then
      (f_X6_is p1 (99 : Int32) (117 : Int32) (116 : Int32) m_text).bind fun r_17 =>
      if r_17 = (0 : Int32) then
        (f_X6_is p1 (102 : Int32) (105 : Int32) (120 : Int32) m_text).bind fun r_20 =>
        if r_20 = (0 : Int32) then
          some ((-9 : Int32))
        else
          some ((2 : Int32))
      else
        some ((1 : Int32))
    else
      if (p2 - p1) = (4 : Int32) then
        (f_X6_is p1 (108 : Int32) (105 : Int32) (110 : Int32) m_text).bind fun r_12 =>
        if r_12 = (0 : Int32) then
          f_X6_kindOf_b136  p1 m_text
        else
          if inb (p1 + (3 : Int32)) 80 = true then
          if (m_text (Int32.toNatClampNeg (p1 + (3 : Int32)))) = (107 : Int32) then
            some ((0 : Int32))
          else
            f_X6_kindOf_b136  p1 m_text
          else none
      else
        if (p2 - p1) = (5 : Int32) then
          (f_X6_is p1 (108 : Int32) (101 : Int32) (97 : Int32) m_text).bind fun r_5 =>
          if r_5 = (0 : Int32) then
            some ((-9 : Int32))
          else
            if inb (p1 + (3 : Int32)) 80 = true then
            if (m_text (Int32.toNatClampNeg (p1 + (3 : Int32)))) = (114 : Int32) then
              if inb (p1 + (4 : Int32)) 80 = true then
              if (m_text (Int32.toNatClampNeg (p1 + (4 : Int32)))) = (110 : Int32) then
                some ((3 : Int32))
              else
                some ((-9 : Int32))
              else none
            else
              some ((-9 : Int32))
            else none
        else
          some ((-9 : Int32))
set_option maxHeartbeats 4000000 in
set_option maxRecDepth 100000 in
theorem c_X6_kindOf (l : Launch) (D : va_G) (cI cZ cN : ClassId) (aK aV : Nat → Nat)  (qm : Nat) (qm_w : Nat) (qm_past : Nat) (qm_images : Nat) (qm_text : Nat) (qm_may : Nat) (qm_least : Nat) (qm_isCarried : Nat) (qm_list : Nat) (qm_nodes : Nat) (qm_kept : Nat) (qm_keptLow : Nat) (qm_keptHigh : Nat) (qm_keptNodes : Nat) (qm_numbers : Nat) (qm_sums : Nat) (qm_commands : Nat) (qm_held : Nat) (m_pastMany : Int32) (m_filled : Int32) (m_text : (Nat → Int32)) (m_length : Int32) (m_listMany : Int32) (m_went : Int32) (m_cost : Int32) (m_cause : Int32) (m_looks : Int32) (m_isSent : Int32) (m_isOld : Int32) (m_keptMany : Int32) (m_commandMany : Int32) (p1 p2 : Int32) (r : Int32) (h : f_X6_kindOf p1 p2 m_text = some r) : CtI l D cI cZ cN aK aV yX6_kindOf (k_W yX6_kindOf cX6_kindOf 4 (some .int)) { frames := 1, cells := 0, slots := 0, locals := 24 } [.ref qm, .int p1, .int p2] [(qm, .inr (6, [.ref qm_w, .ref qm_past, .int m_pastMany, .ref qm_images, .int m_filled, .ref qm_text, .int m_length, .ref qm_may, .ref qm_least, .ref qm_isCarried, .ref qm_list, .ref qm_nodes, .int m_listMany, .int m_went, .int m_cost, .int m_cause, .int m_looks, .int m_isSent, .int m_isOld, .ref qm_kept, .ref qm_keptLow, .ref qm_keptHigh, .int m_keptMany, .ref qm_keptNodes, .ref qm_numbers, .ref qm_sums, .ref qm_commands, .int m_commandMany, .ref qm_held])), (qm_text, .inl (cI, 80, .inl m_text))] r [(qm, .inr (6, [.ref qm_w, .ref qm_past, .int m_pastMany, .ref qm_images, .int m_filled, .ref qm_text, .int m_length, .ref qm_may, .ref qm_least, .ref qm_isCarried, .ref qm_list, .ref qm_nodes, .int m_listMany, .int m_went, .int m_cost, .int m_cause, .int m_looks, .int m_isSent, .int m_isOld, .ref qm_kept, .ref qm_keptLow, .ref qm_keptHigh, .int m_keptMany, .ref qm_keptNodes, .ref qm_numbers, .ref qm_sums, .ref qm_commands, .int m_commandMany, .ref qm_held])), (qm_text, .inl (cI, 80, .inl m_text))] := by
  refine k_startI (by decide) (Nat.le_of_ble_eq_true rfl) ?_
  intro p e s m below meth c A ls hx hb hr hml hown hts hlocks hT hZ hA hP hD hS hl
  have hK := hT.1
  have hu : ∀ w ∈ k_U, w.before ([.ref qm, .int p1, .int p2] : List Value).toArray s = true := fun w h => hts w (List.mem_cons_of_mem _ h)
  have hown : s.vm.findClass RX6 = some m.cls := hown
  have hl : lv_has ls 4 [(0, .ref qm), (1, .int p1), (2, .int p2)] := hl
  unfold f_X6_kindOf at h
  have w136 : ∀  (x1 : Int32) (m_text : (Nat → Int32)) (H : Heap) (locs : List Loc) (ls : Array Slot), va_P D vwCl [(qm, .inr (6, [.ref qm_w, .ref qm_past, .int m_pastMany, .ref qm_images, .int m_filled, .ref qm_text, .int m_length, .ref qm_may, .ref qm_least, .ref qm_isCarried, .ref qm_list, .ref qm_nodes, .int m_listMany, .int m_went, .int m_cost, .int m_cause, .int m_looks, .int m_isSent, .int m_isOld, .ref qm_kept, .ref qm_keptLow, .ref qm_keptHigh, .int m_keptMany, .ref qm_keptNodes, .ref qm_numbers, .ref qm_sums, .ref qm_commands, .int m_commandMany, .ref qm_held])), (qm_text, .inl (cI, 80, .inl m_text))] H → va_D A [(qm, .inr (6, [.ref qm_w, .ref qm_past, .int m_pastMany, .ref qm_images, .int m_filled, .ref qm_text, .int m_length, .ref qm_may, .ref qm_least, .ref qm_isCarried, .ref qm_list, .ref qm_nodes, .int m_listMany, .int m_went, .int m_cost, .int m_cause, .int m_looks, .int m_isSent, .int m_isOld, .ref qm_kept, .ref qm_keptLow, .ref qm_keptHigh, .int m_keptMany, .ref qm_keptNodes, .ref qm_numbers, .ref qm_sums, .ref qm_commands, .int m_commandMany, .ref qm_held])), (qm_text, .inl (cI, 80, .inl m_text))] → va_S A s.heap H locs → lv_has ls 4 [(0, .ref qm), (1, .int x1)] → f_X6_kindOf_b136 x1 m_text = some r → W p l e { frames := 1, cells := 0, slots := 0, locals := 24 } s m ([.ref qm, .int p1, .int p2] : List Value).toArray below meth c H locs 0 0 (MQ below (k_QI D r [(qm, .inr (6, [.ref qm_w, .ref qm_past, .int m_pastMany, .ref qm_images, .int m_filled, .ref qm_text, .int m_length, .ref qm_may, .ref qm_least, .ref qm_isCarried, .ref qm_list, .ref qm_nodes, .int m_listMany, .int m_went, .int m_cost, .int m_cause, .int m_looks, .int m_isSent, .int m_isOld, .ref qm_kept, .ref qm_keptLow, .ref qm_keptHigh, .int m_keptMany, .ref qm_keptNodes, .ref qm_numbers, .ref qm_sums, .ref qm_commands, .int m_commandMany, .ref qm_held])), (qm_text, .inl (cI, 80, .inl m_text))] A) ([.ref qm, .int p1, .int p2] : List Value).toArray s 0 0 A) (F0 m 136 ls []) := by
    intro x1 m_text H locs ls hP hD hS hl h
    unfold f_X6_kindOf_b136 at h
    refine lv_aload_n hx hb dX6_kindOf_136 rfl (lv_at hl 0 rfl) ?_
    refine lv_iload_n hx hb dX6_kindOf_137 rfl (lv_at hl 1 rfl) ?_
    refine lv_bipush (v := (115 : Int32)) hx hb dX6_kindOf_138 (by decide) ?_
    refine lv_bipush (v := (105 : Int32)) hx hb dX6_kindOf_140 (by decide) ?_
    refine lv_bipush (v := (122 : Int32)) hx hb dX6_kindOf_142 (by decide) ?_
    obtain ⟨r_26, hc_27, h⟩ := ob_bind h
    refine k_callVIr (qb := 0) [0, 1] (As := [.int x1, .int (115 : Int32), .int (105 : Int32), .int (122 : Int32)]) (rest := []) ⟨hx, hb, hml, hown, hts⟩ hT hZ hA hP hD hS (c_X6_is l D cI cZ cN aK aV qm qm_w qm_past qm_images qm_text qm_may qm_least qm_isCarried qm_list qm_nodes qm_kept qm_keptLow qm_keptHigh qm_keptNodes qm_numbers qm_sums qm_commands qm_held m_pastMany m_filled m_text m_length m_listMany m_went m_cost m_cause m_looks m_isSent m_isOld m_keptMany m_commandMany x1 (115 : Int32) (105 : Int32) (122 : Int32) r_26 hc_27) ⟨callB_of 4 hts (k_good u_1002) rfl rfl rfl (hu _ u_51) (hu _ u_999) (by decide +kernel) ⟨Nat.le_of_ble_eq_true rfl, Nat.le_of_ble_eq_true rfl⟩, hu _ u_1001, hu _ u_42⟩ rfl rfl rfl (by decide) rfl hl.1 rfl (Nat.le_of_ble_eq_true rfl) dX6_kindOf_144 (fun H locs hP hD hS => ?_)
    refine lv_if_eq (tgt := 167) hx hb dX6_kindOf_147 (by decide) (fun cc_28 => ?_) (fun cc_28 => ?_)
    · have h := (if_pos cc_28).symm.trans h
      refine lv_bipush (v := (-9 : Int32)) hx hb dX6_kindOf_167 (by decide) ?_
      have hq := Option.some.inj h
      clear h
      subst hq
      exact k_retI hx hb hr hlocks hP hD hS dX6_kindOf_169
    · have h := (if_neg cc_28).symm.trans h
      refine lv_aload_n hx hb dX6_kindOf_150 rfl (lv_at hl 0 rfl) ?_
      refine va_get (D := D) (ci := 6) (v := .ref qm_text) (C := RX6) (T := TX6) (N := 29) hx hb hu k_iX6 hown hK hP 0 rfl rfl 5 (by decide) (hu _ u_723) (fun _ h9 => h9) rfl dX6_kindOf_151 ?_
      refine lv_iload_n hx hb dX6_kindOf_154 rfl (lv_at hl 1 rfl) ?_
      refine lv_iconst (v := (3 : Int32)) hx hb dX6_kindOf_155 (by decide) ?_
      refine lv_iadd hx hb dX6_kindOf_156 ?_
      obtain ⟨hin_29, h⟩ := ob_if h
      have hin_29 := inb_in hin_29
      refine va_iald (D := D) hx hb hK hP 1 0 rfl rfl hin_29 dX6_kindOf_157 ?_
      refine lv_bipush (v := (101 : Int32)) hx hb dX6_kindOf_158 (by decide) ?_
      refine lv_icmp_ne (tgt := 167) hx hb dX6_kindOf_160 (by decide) (fun cc_30 => ?_) (fun cc_30 => ?_)
      · have h := (if_neg cc_30).symm.trans h
        refine lv_bipush (v := (-9 : Int32)) hx hb dX6_kindOf_167 (by decide) ?_
        have hq := Option.some.inj h
        clear h
        subst hq
        exact k_retI hx hb hr hlocks hP hD hS dX6_kindOf_169
      · have h := (if_pos cc_30).symm.trans h
        refine lv_iconst (v := (4 : Int32)) hx hb dX6_kindOf_163 (by decide) ?_
        refine lv_goto (tgt := 169) hx hb dX6_kindOf_164 (by decide) ?_
        have hq := Option.some.inj h
        clear h
        subst hq
        exact k_retI hx hb hr hlocks hP hD hS dX6_kindOf_169
  refine lv_iload_n hx hb dX6_kindOf_0 rfl (lv_at hl 2 rfl) ?_
  refine lv_iload_n hx hb dX6_kindOf_1 rfl (lv_at hl 1 rfl) ?_
  refine lv_iconst (v := (1 : Int32)) hx hb dX6_kindOf_2 (by decide) ?_
  refine lv_iadd hx hb dX6_kindOf_3 ?_
  refine lv_icmp_ne (tgt := 52) hx hb dX6_kindOf_4 (by decide) (fun cc_1 => ?_) (fun cc_1 => ?_)
  · have h := (if_neg cc_1).symm.trans h
    refine lv_iload_n hx hb dX6_kindOf_52 rfl (lv_at hl 2 rfl) ?_
    refine lv_iload_n hx hb dX6_kindOf_53 rfl (lv_at hl 1 rfl) ?_
    refine lv_isub hx hb dX6_kindOf_54 ?_
    refine lv_istore_n (lv' := [(3, .int (p2 - p1)), (0, .ref qm), (1, .int p1), (2, .int p2)]) hx hb dX6_kindOf_55 rfl hl (by decide) rfl (fun ls hl => ?_)
    refine lv_iload_n hx hb dX6_kindOf_56 rfl (lv_at hl 0 rfl) ?_
    refine lv_iconst (v := (3 : Int32)) hx hb dX6_kindOf_57 (by decide) ?_
    refine lv_icmp_ne (tgt := 100) hx hb dX6_kindOf_58 (by decide) (fun cc_2 => ?_) (fun cc_2 => ?_)
    · have h := (if_neg cc_2).symm.trans h
      refine lv_iload_n hx hb dX6_kindOf_100 rfl (lv_at hl 0 rfl) ?_
      refine lv_iconst (v := (4 : Int32)) hx hb dX6_kindOf_101 (by decide) ?_
      refine lv_icmp_ne (tgt := 170) hx hb dX6_kindOf_102 (by decide) (fun cc_3 => ?_) (fun cc_3 => ?_)
      · have h := (if_neg cc_3).symm.trans h
        refine lv_iload_n hx hb dX6_kindOf_170 rfl (lv_at hl 0 rfl) ?_
        refine lv_iconst (v := (5 : Int32)) hx hb dX6_kindOf_171 (by decide) ?_
        refine lv_icmp_ne (tgt := 219) hx hb dX6_kindOf_172 (by decide) (fun cc_4 => ?_) (fun cc_4 => ?_)
        · have h := (if_neg cc_4).symm.trans h
          refine lv_bipush (v := (-9 : Int32)) hx hb dX6_kindOf_219 (by decide) ?_
          have hq := Option.some.inj h
          clear h
          subst hq
          exact k_retI hx hb hr hlocks hP hD hS dX6_kindOf_221
        · have h := (if_pos cc_4).symm.trans h
          refine lv_aload_n hx hb dX6_kindOf_175 rfl (lv_at hl 1 rfl) ?_
          refine lv_iload_n hx hb dX6_kindOf_176 rfl (lv_at hl 2 rfl) ?_
          refine lv_bipush (v := (108 : Int32)) hx hb dX6_kindOf_177 (by decide) ?_
          refine lv_bipush (v := (101 : Int32)) hx hb dX6_kindOf_179 (by decide) ?_
          refine lv_bipush (v := (97 : Int32)) hx hb dX6_kindOf_181 (by decide) ?_
          obtain ⟨r_5, hc_6, h⟩ := ob_bind h
          refine k_callVIr (qb := 0) [0, 1] (As := [.int p1, .int (108 : Int32), .int (101 : Int32), .int (97 : Int32)]) (rest := []) ⟨hx, hb, hml, hown, hts⟩ hT hZ hA hP hD hS (c_X6_is l D cI cZ cN aK aV qm qm_w qm_past qm_images qm_text qm_may qm_least qm_isCarried qm_list qm_nodes qm_kept qm_keptLow qm_keptHigh qm_keptNodes qm_numbers qm_sums qm_commands qm_held m_pastMany m_filled m_text m_length m_listMany m_went m_cost m_cause m_looks m_isSent m_isOld m_keptMany m_commandMany p1 (108 : Int32) (101 : Int32) (97 : Int32) r_5 hc_6) ⟨callB_of 4 hts (k_good u_1002) rfl rfl rfl (hu _ u_51) (hu _ u_999) (by decide +kernel) ⟨Nat.le_of_ble_eq_true rfl, Nat.le_of_ble_eq_true rfl⟩, hu _ u_1001, hu _ u_42⟩ rfl rfl rfl (by decide) rfl hl.1 rfl (Nat.le_of_ble_eq_true rfl) dX6_kindOf_183 (fun H locs hP hD hS => ?_)
          refine lv_if_eq (tgt := 219) hx hb dX6_kindOf_186 (by decide) (fun cc_7 => ?_) (fun cc_7 => ?_)
          · have h := (if_pos cc_7).symm.trans h
            refine lv_bipush (v := (-9 : Int32)) hx hb dX6_kindOf_219 (by decide) ?_
            have hq := Option.some.inj h
            clear h
            subst hq
            exact k_retI hx hb hr hlocks hP hD hS dX6_kindOf_221
          · have h := (if_neg cc_7).symm.trans h
            refine lv_aload_n hx hb dX6_kindOf_189 rfl (lv_at hl 1 rfl) ?_
            refine va_get (D := D) (ci := 6) (v := .ref qm_text) (C := RX6) (T := TX6) (N := 29) hx hb hu k_iX6 hown hK hP 0 rfl rfl 5 (by decide) (hu _ u_723) (fun _ h9 => h9) rfl dX6_kindOf_190 ?_
            refine lv_iload_n hx hb dX6_kindOf_193 rfl (lv_at hl 2 rfl) ?_
            refine lv_iconst (v := (3 : Int32)) hx hb dX6_kindOf_194 (by decide) ?_
            refine lv_iadd hx hb dX6_kindOf_195 ?_
            obtain ⟨hin_8, h⟩ := ob_if h
            have hin_8 := inb_in hin_8
            refine va_iald (D := D) hx hb hK hP 1 0 rfl rfl hin_8 dX6_kindOf_196 ?_
            refine lv_bipush (v := (114 : Int32)) hx hb dX6_kindOf_197 (by decide) ?_
            refine lv_icmp_ne (tgt := 219) hx hb dX6_kindOf_199 (by decide) (fun cc_9 => ?_) (fun cc_9 => ?_)
            · have h := (if_neg cc_9).symm.trans h
              refine lv_bipush (v := (-9 : Int32)) hx hb dX6_kindOf_219 (by decide) ?_
              have hq := Option.some.inj h
              clear h
              subst hq
              exact k_retI hx hb hr hlocks hP hD hS dX6_kindOf_221
            · have h := (if_pos cc_9).symm.trans h
              refine lv_aload_n hx hb dX6_kindOf_202 rfl (lv_at hl 1 rfl) ?_
              refine va_get (D := D) (ci := 6) (v := .ref qm_text) (C := RX6) (T := TX6) (N := 29) hx hb hu k_iX6 hown hK hP 0 rfl rfl 5 (by decide) (hu _ u_723) (fun _ h9 => h9) rfl dX6_kindOf_203 ?_
              refine lv_iload_n hx hb dX6_kindOf_206 rfl (lv_at hl 2 rfl) ?_
              refine lv_iconst (v := (4 : Int32)) hx hb dX6_kindOf_207 (by decide) ?_
              refine lv_iadd hx hb dX6_kindOf_208 ?_
              obtain ⟨hin_10, h⟩ := ob_if h
              have hin_10 := inb_in hin_10
              refine va_iald (D := D) hx hb hK hP 1 0 rfl rfl hin_10 dX6_kindOf_209 ?_
              refine lv_bipush (v := (110 : Int32)) hx hb dX6_kindOf_210 (by decide) ?_
              refine lv_icmp_ne (tgt := 219) hx hb dX6_kindOf_212 (by decide) (fun cc_11 => ?_) (fun cc_11 => ?_)
              · have h := (if_neg cc_11).symm.trans h
                refine lv_bipush (v := (-9 : Int32)) hx hb dX6_kindOf_219 (by decide) ?_
                have hq := Option.some.inj h
                clear h
                subst hq
                exact k_retI hx hb hr hlocks hP hD hS dX6_kindOf_221
              · have h := (if_pos cc_11).symm.trans h
                refine lv_iconst (v := (3 : Int32)) hx hb dX6_kindOf_215 (by decide) ?_
                refine lv_goto (tgt := 221) hx hb dX6_kindOf_216 (by decide) ?_
                have hq := Option.some.inj h
                clear h
                subst hq
                exact k_retI hx hb hr hlocks hP hD hS dX6_kindOf_221
      · have h := (if_pos cc_3).symm.trans h
        refine lv_aload_n hx hb dX6_kindOf_105 rfl (lv_at hl 1 rfl) ?_
        refine lv_iload_n hx hb dX6_kindOf_106 rfl (lv_at hl 2 rfl) ?_
        refine lv_bipush (v := (108 : Int32)) hx hb dX6_kindOf_107 (by decide) ?_
        refine lv_bipush (v := (105 : Int32)) hx hb dX6_kindOf_109 (by decide) ?_
        refine lv_bipush (v := (110 : Int32)) hx hb dX6_kindOf_111 (by decide) ?_
        obtain ⟨r_12, hc_13, h⟩ := ob_bind h
        refine k_callVIr (qb := 0) [0, 1] (As := [.int p1, .int (108 : Int32), .int (105 : Int32), .int (110 : Int32)]) (rest := []) ⟨hx, hb, hml, hown, hts⟩ hT hZ hA hP hD hS (c_X6_is l D cI cZ cN aK aV qm qm_w qm_past qm_images qm_text qm_may qm_least qm_isCarried qm_list qm_nodes qm_kept qm_keptLow qm_keptHigh qm_keptNodes qm_numbers qm_sums qm_commands qm_held m_pastMany m_filled m_text m_length m_listMany m_went m_cost m_cause m_looks m_isSent m_isOld m_keptMany m_commandMany p1 (108 : Int32) (105 : Int32) (110 : Int32) r_12 hc_13) ⟨callB_of 4 hts (k_good u_1002) rfl rfl rfl (hu _ u_51) (hu _ u_999) (by decide +kernel) ⟨Nat.le_of_ble_eq_true rfl, Nat.le_of_ble_eq_true rfl⟩, hu _ u_1001, hu _ u_42⟩ rfl rfl rfl (by decide) rfl hl.1 rfl (Nat.le_of_ble_eq_true rfl) dX6_kindOf_113 (fun H locs hP hD hS => ?_)
        refine lv_if_eq (tgt := 136) hx hb dX6_kindOf_116 (by decide) (fun cc_14 => ?_) (fun cc_14 => ?_)
        · have h := (if_pos cc_14).symm.trans h
          exact w136 p1 m_text _ _ _ hP hD hS (lv_sub hl [1, 2] rfl) h
        · have h := (if_neg cc_14).symm.trans h
          refine lv_aload_n hx hb dX6_kindOf_119 rfl (lv_at hl 1 rfl) ?_
          refine va_get (D := D) (ci := 6) (v := .ref qm_text) (C := RX6) (T := TX6) (N := 29) hx hb hu k_iX6 hown hK hP 0 rfl rfl 5 (by decide) (hu _ u_723) (fun _ h9 => h9) rfl dX6_kindOf_120 ?_
          refine lv_iload_n hx hb dX6_kindOf_123 rfl (lv_at hl 2 rfl) ?_
          refine lv_iconst (v := (3 : Int32)) hx hb dX6_kindOf_124 (by decide) ?_
          refine lv_iadd hx hb dX6_kindOf_125 ?_
          obtain ⟨hin_15, h⟩ := ob_if h
          have hin_15 := inb_in hin_15
          refine va_iald (D := D) hx hb hK hP 1 0 rfl rfl hin_15 dX6_kindOf_126 ?_
          refine lv_bipush (v := (107 : Int32)) hx hb dX6_kindOf_127 (by decide) ?_
          refine lv_icmp_ne (tgt := 136) hx hb dX6_kindOf_129 (by decide) (fun cc_16 => ?_) (fun cc_16 => ?_)
          · have h := (if_neg cc_16).symm.trans h
            exact w136 p1 m_text _ _ _ hP hD hS (lv_sub hl [1, 2] rfl) h
          · have h := (if_pos cc_16).symm.trans h
            refine lv_iconst (v := (0 : Int32)) hx hb dX6_kindOf_132 (by decide) ?_
            refine lv_goto (tgt := 169) hx hb dX6_kindOf_133 (by decide) ?_
            have hq := Option.some.inj h
            clear h
            subst hq
            exact k_retI hx hb hr hlocks hP hD hS dX6_kindOf_169
    · have h := (if_pos cc_2).symm.trans h
      refine lv_aload_n hx hb dX6_kindOf_61 rfl (lv_at hl 1 rfl) ?_
      refine lv_iload_n hx hb dX6_kindOf_62 rfl (lv_at hl 2 rfl) ?_
      refine lv_bipush (v := (99 : Int32)) hx hb dX6_kindOf_63 (by decide) ?_
      refine lv_bipush (v := (117 : Int32)) hx hb dX6_kindOf_65 (by decide) ?_
      refine lv_bipush (v := (116 : Int32)) hx hb dX6_kindOf_67 (by decide) ?_
      obtain ⟨r_17, hc_18, h⟩ := ob_bind h
      refine k_callVIr (qb := 0) [0, 1] (As := [.int p1, .int (99 : Int32), .int (117 : Int32), .int (116 : Int32)]) (rest := []) ⟨hx, hb, hml, hown, hts⟩ hT hZ hA hP hD hS (c_X6_is l D cI cZ cN aK aV qm qm_w qm_past qm_images qm_text qm_may qm_least qm_isCarried qm_list qm_nodes qm_kept qm_keptLow qm_keptHigh qm_keptNodes qm_numbers qm_sums qm_commands qm_held m_pastMany m_filled m_text m_length m_listMany m_went m_cost m_cause m_looks m_isSent m_isOld m_keptMany m_commandMany p1 (99 : Int32) (117 : Int32) (116 : Int32) r_17 hc_18) ⟨callB_of 4 hts (k_good u_1002) rfl rfl rfl (hu _ u_51) (hu _ u_999) (by decide +kernel) ⟨Nat.le_of_ble_eq_true rfl, Nat.le_of_ble_eq_true rfl⟩, hu _ u_1001, hu _ u_42⟩ rfl rfl rfl (by decide) rfl hl.1 rfl (Nat.le_of_ble_eq_true rfl) dX6_kindOf_69 (fun H locs hP hD hS => ?_)
      refine lv_if_eq (tgt := 79) hx hb dX6_kindOf_72 (by decide) (fun cc_19 => ?_) (fun cc_19 => ?_)
      · have h := (if_pos cc_19).symm.trans h
        refine lv_aload_n hx hb dX6_kindOf_79 rfl (lv_at hl 1 rfl) ?_
        refine lv_iload_n hx hb dX6_kindOf_80 rfl (lv_at hl 2 rfl) ?_
        refine lv_bipush (v := (102 : Int32)) hx hb dX6_kindOf_81 (by decide) ?_
        refine lv_bipush (v := (105 : Int32)) hx hb dX6_kindOf_83 (by decide) ?_
        refine lv_bipush (v := (120 : Int32)) hx hb dX6_kindOf_85 (by decide) ?_
        obtain ⟨r_20, hc_21, h⟩ := ob_bind h
        refine k_callVIr (qb := 0) [0, 1] (As := [.int p1, .int (102 : Int32), .int (105 : Int32), .int (120 : Int32)]) (rest := []) ⟨hx, hb, hml, hown, hts⟩ hT hZ hA hP hD hS (c_X6_is l D cI cZ cN aK aV qm qm_w qm_past qm_images qm_text qm_may qm_least qm_isCarried qm_list qm_nodes qm_kept qm_keptLow qm_keptHigh qm_keptNodes qm_numbers qm_sums qm_commands qm_held m_pastMany m_filled m_text m_length m_listMany m_went m_cost m_cause m_looks m_isSent m_isOld m_keptMany m_commandMany p1 (102 : Int32) (105 : Int32) (120 : Int32) r_20 hc_21) ⟨callB_of 4 hts (k_good u_1002) rfl rfl rfl (hu _ u_51) (hu _ u_999) (by decide +kernel) ⟨Nat.le_of_ble_eq_true rfl, Nat.le_of_ble_eq_true rfl⟩, hu _ u_1001, hu _ u_42⟩ rfl rfl rfl (by decide) rfl hl.1 rfl (Nat.le_of_ble_eq_true rfl) dX6_kindOf_87 (fun H locs hP hD hS => ?_)
        refine lv_if_eq (tgt := 97) hx hb dX6_kindOf_90 (by decide) (fun cc_22 => ?_) (fun cc_22 => ?_)
        · have h := (if_pos cc_22).symm.trans h
          refine lv_bipush (v := (-9 : Int32)) hx hb dX6_kindOf_97 (by decide) ?_
          have hq := Option.some.inj h
          clear h
          subst hq
          exact k_retI hx hb hr hlocks hP hD hS dX6_kindOf_99
        · have h := (if_neg cc_22).symm.trans h
          refine lv_iconst (v := (2 : Int32)) hx hb dX6_kindOf_93 (by decide) ?_
          refine lv_goto (tgt := 99) hx hb dX6_kindOf_94 (by decide) ?_
          have hq := Option.some.inj h
          clear h
          subst hq
          exact k_retI hx hb hr hlocks hP hD hS dX6_kindOf_99
      · have h := (if_neg cc_19).symm.trans h
        refine lv_iconst (v := (1 : Int32)) hx hb dX6_kindOf_75 (by decide) ?_
        refine lv_goto (tgt := 99) hx hb dX6_kindOf_76 (by decide) ?_
        have hq := Option.some.inj h
        clear h
        subst hq
        exact k_retI hx hb hr hlocks hP hD hS dX6_kindOf_99
  · have h := (if_pos cc_1).symm.trans h
    refine lv_aload_n hx hb dX6_kindOf_7 rfl (lv_at hl 0 rfl) ?_
    refine va_get (D := D) (ci := 6) (v := .ref qm_text) (C := RX6) (T := TX6) (N := 29) hx hb hu k_iX6 hown hK hP 0 rfl rfl 5 (by decide) (hu _ u_723) (fun _ h9 => h9) rfl dX6_kindOf_8 ?_
    refine lv_iload_n hx hb dX6_kindOf_11 rfl (lv_at hl 1 rfl) ?_
    obtain ⟨hin_23, h⟩ := ob_if h
    have hin_23 := inb_in hin_23
    refine va_iald (D := D) hx hb hK hP 1 0 rfl rfl hin_23 dX6_kindOf_12 ?_
    refine lv_bipush (v := (97 : Int32)) hx hb dX6_kindOf_13 (by decide) ?_
    refine lv_bipush (v := (105 : Int32)) hx hb dX6_kindOf_15 (by decide) ?_
    refine k_call0 (As := [.int (m_text (Int32.toNatClampNeg p1)), .int (97 : Int32), .int (105 : Int32)]) (rest := []) ⟨hx, hb, hml, hown, hts⟩ hT hZ hA hP hD hS (c_X6_isIn l D cI cZ cN aK aV (m_text (Int32.toNatClampNeg p1)) (97 : Int32) (105 : Int32) _ rfl) ⟨callB_of 3 hts (k_good u_812) rfl rfl rfl (hu _ u_51) (hu _ u_810) (by decide +kernel) ⟨Nat.le_of_ble_eq_true rfl, Nat.le_of_ble_eq_true rfl⟩, hu _ u_811⟩ rfl hl.1 rfl (Nat.le_of_ble_eq_true rfl) dX6_kindOf_17 (fun H locs hP hD hS => ?_)
    refine lv_if_eq (tgt := 28) hx hb dX6_kindOf_20 (by decide) (fun cc_24 => ?_) (fun cc_24 => ?_)
    · have h := (if_pos cc_24).symm.trans h
      refine lv_aload_n hx hb dX6_kindOf_28 rfl (lv_at hl 0 rfl) ?_
      refine va_get (D := D) (ci := 6) (v := .ref qm_text) (C := RX6) (T := TX6) (N := 29) hx hb hu k_iX6 hown hK hP 0 rfl rfl 5 (by decide) (hu _ u_723) (fun _ h9 => h9) rfl dX6_kindOf_29 ?_
      refine lv_iload_n hx hb dX6_kindOf_32 rfl (lv_at hl 1 rfl) ?_
      refine va_iald (D := D) hx hb hK hP 1 0 rfl rfl hin_23 dX6_kindOf_33 ?_
      refine lv_bipush (v := (49 : Int32)) hx hb dX6_kindOf_34 (by decide) ?_
      refine lv_bipush (v := (57 : Int32)) hx hb dX6_kindOf_36 (by decide) ?_
      refine k_call0 (As := [.int (m_text (Int32.toNatClampNeg p1)), .int (49 : Int32), .int (57 : Int32)]) (rest := []) ⟨hx, hb, hml, hown, hts⟩ hT hZ hA hP hD hS (c_X6_isIn l D cI cZ cN aK aV (m_text (Int32.toNatClampNeg p1)) (49 : Int32) (57 : Int32) _ rfl) ⟨callB_of 3 hts (k_good u_812) rfl rfl rfl (hu _ u_51) (hu _ u_810) (by decide +kernel) ⟨Nat.le_of_ble_eq_true rfl, Nat.le_of_ble_eq_true rfl⟩, hu _ u_811⟩ rfl hl.1 rfl (Nat.le_of_ble_eq_true rfl) dX6_kindOf_38 (fun H locs hP hD hS => ?_)
      refine lv_if_eq (tgt := 49) hx hb dX6_kindOf_41 (by decide) (fun cc_25 => ?_) (fun cc_25 => ?_)
      · have h := (if_pos cc_25).symm.trans h
        refine lv_bipush (v := (-9 : Int32)) hx hb dX6_kindOf_49 (by decide) ?_
        have hq := Option.some.inj h
        clear h
        subst hq
        exact k_retI hx hb hr hlocks hP hD hS dX6_kindOf_51
      · have h := (if_neg cc_25).symm.trans h
        refine lv_bipush (v := (21 : Int32)) hx hb dX6_kindOf_44 (by decide) ?_
        refine lv_goto (tgt := 51) hx hb dX6_kindOf_46 (by decide) ?_
        have hq := Option.some.inj h
        clear h
        subst hq
        exact k_retI hx hb hr hlocks hP hD hS dX6_kindOf_51
    · have h := (if_neg cc_24).symm.trans h
      refine lv_bipush (v := (20 : Int32)) hx hb dX6_kindOf_23 (by decide) ?_
      refine lv_goto (tgt := 51) hx hb dX6_kindOf_25 (by decide) ?_
      have hq := Option.some.inj h
      clear h
      subst hq
      exact k_retI hx hb hr hlocks hP hD hS dX6_kindOf_51
def f_X6_read_b205 (k12 : Int32 → Int32 → Int32 → (Nat → Int32) → Int32 → (Nat → Int32) → Int32 → Option (Int32 × (Nat → Int32) × Int32)) (x1 : Int32) (x2 : Int32) (x3 : Int32) (m_text : (Nat → Int32)) (m_length : Int32) (m_commands : (Nat → Int32)) (m_commandMany : Int32) : Option (Int32 × (Nat → Int32) × Int32) :=
  if m_length ≤ x3 then
    k12 x1 x2 (x3 + (0 : Int32)) m_text m_length m_commands m_commandMany
  else
    k12 x1 x2 (x3 + (1 : Int32)) m_text m_length m_commands m_commandMany
def f_X6_read_b181 (k12 : Int32 → Int32 → Int32 → (Nat → Int32) → Int32 → (Nat → Int32) → Int32 → Option (Int32 × (Nat → Int32) × Int32)) (x1 : Int32) (x2 : Int32) (x3 : Int32) (s0 : Int32) (s1 : Int32) (m_text : (Nat → Int32)) (m_length : Int32) (m_commands : (Nat → Int32)) (m_commandMany : Int32) : Option (Int32 × (Nat → Int32) × Int32) :=
  if inb s1 320 = true then
  if (x1 + (1 : Int32)) = (f_X6_partsOf x2) then
    f_X6_read_b205 k12 (0 : Int32) x2 x3 m_text m_length (upd m_commands (Int32.toNatClampNeg s1) s0) (m_commandMany + (1 : Int32))
  else
    f_X6_read_b205 k12 (x1 + (1 : Int32)) x2 x3 m_text m_length (upd m_commands (Int32.toNatClampNeg s1) s0) m_commandMany
  else none
def f_X6_read_b129 (k12 : Int32 → Int32 → Int32 → (Nat → Int32) → Int32 → (Nat → Int32) → Int32 → Option (Int32 × (Nat → Int32) × Int32)) (x1 : Int32) (x3 : Int32) (x4 : Int32) (x5 : Int32) (s0 : Int32) (m_text : (Nat → Int32)) (m_length : Int32) (m_commands : (Nat → Int32)) (m_commandMany : Int32) : Option (Int32 × (Nat → Int32) × Int32) :=
  if x1 = (0 : Int32) then
    f_X6_read_b181 k12 x1 s0 x3 x5 (((4 : Int32) * m_commandMany) + x1) m_text m_length m_commands m_commandMany
  else
    if x5 = (20 : Int32) then
      if inb x4 80 = true then
      f_X6_read_b181 k12 x1 s0 x3 ((m_text (Int32.toNatClampNeg x4)) - (97 : Int32)) (((4 : Int32) * m_commandMany) + x1) m_text m_length m_commands m_commandMany
      else none
    else
      if inb x4 80 = true then
      f_X6_read_b181 k12 x1 s0 x3 ((m_text (Int32.toNatClampNeg x4)) - (48 : Int32)) (((4 : Int32) * m_commandMany) + x1) m_text m_length m_commands m_commandMany
      else none
def f_X6_read_b109 (k12 : Int32 → Int32 → Int32 → (Nat → Int32) → Int32 → (Nat → Int32) → Int32 → Option (Int32 × (Nat → Int32) × Int32)) (x1 : Int32) (x2 : Int32) (x3 : Int32) (x4 : Int32) (x5 : Int32) (s0 : Int32) (m_text : (Nat → Int32)) (m_length : Int32) (m_commands : (Nat → Int32)) (m_commandMany : Int32) : Option (Int32 × (Nat → Int32) × Int32) :=
  if s0 = (0 : Int32) then
    some (x4, m_commands, m_commandMany)
  else
    if x1 = (0 : Int32) then
      f_X6_read_b129 k12 x1 x3 x4 x5 x5 m_text m_length m_commands m_commandMany
    else
      f_X6_read_b129 k12 x1 x3 x4 x5 x2 m_text m_length m_commands m_commandMany
def f_X6_read_b48 (k12 : Int32 → Int32 → Int32 → (Nat → Int32) → Int32 → (Nat → Int32) → Int32 → Option (Int32 × (Nat → Int32) × Int32)) (x1 : Int32) (x2 : Int32) (x3 : Int32) (x4 : Int32) (m_text : (Nat → Int32)) (m_length : Int32) (m_commands : (Nat → Int32)) (m_commandMany : Int32) : Option (Int32 × (Nat → Int32) × Int32) :=
  if x3 ≤ x4 then
    f_X6_read_b205 k12 x1 x2 x3 m_text m_length m_commands m_commandMany
  else
    (f_X6_kindOf x4 x3 m_text).bind fun r_7 =>
    if x1 = (0 : Int32) then
      f_X6_read_b109 k12 x1 x2 x3 x4 r_7 (f_X6_isIn r_7 (0 : Int32) (4 : Int32)) m_text m_length m_commands m_commandMany
    else
      if r_7 = (f_X6_wanted x2 x1) then
        if x2 = (4 : Int32) then
          if inb x4 80 = true then
          if (m_text (Int32.toNatClampNeg x4)) = (49 : Int32) then
            f_X6_read_b109 k12 x1 x2 x3 x4 r_7 (0 : Int32) m_text m_length m_commands m_commandMany
          else
            f_X6_read_b109 k12 x1 x2 x3 x4 r_7 (1 : Int32) m_text m_length m_commands m_commandMany
          else none
        else
          f_X6_read_b109 k12 x1 x2 x3 x4 r_7 (1 : Int32) m_text m_length m_commands m_commandMany
      else
        f_X6_read_b109 k12 x1 x2 x3 x4 r_7 (0 : Int32) m_text m_length m_commands m_commandMany
def f_X6_read_b23 (k12 : Int32 → Int32 → Int32 → (Nat → Int32) → Int32 → (Nat → Int32) → Int32 → Option (Int32 × (Nat → Int32) × Int32)) : Nat → Int32 → Int32 → Int32 → Int32 → (Nat → Int32) → Int32 → (Nat → Int32) → Int32 → Option (Int32 × (Nat → Int32) × Int32)
  | 0, _, _, _, _, _, _, _, _ => none
  | n + 1, x1, x2, x3, x4, m_text, m_length, m_commands, m_commandMany =>
    if m_length ≤ x3 then
      f_X6_read_b48 k12 x1 x2 x3 x4 m_text m_length m_commands m_commandMany
    else
      if inb x3 80 = true then
      if (m_text (Int32.toNatClampNeg x3)) = (32 : Int32) then
        f_X6_read_b48 k12 x1 x2 x3 x4 m_text m_length m_commands m_commandMany
      else
        (f_X6_read_b23 k12 n) x1 x2 (x3 + (1 : Int32)) x4 m_text m_length m_commands m_commandMany
      else none
def f_X6_read_b12  : Nat → Int32 → Int32 → Int32 → (Nat → Int32) → Int32 → (Nat → Int32) → Int32 → Option (Int32 × (Nat → Int32) × Int32)
  | 0, _, _, _, _, _, _, _ => none
  | n + 1, x1, x2, x3, m_text, m_length, m_commands, m_commandMany =>
    if m_length ≤ x3 then
      if x1 = (0 : Int32) then
        some ((-9 : Int32), m_commands, m_commandMany)
      else
        some (m_length, m_commands, m_commandMany)
    else
      f_X6_read_b23 (f_X6_read_b12 n) 1000 x1 x2 x3 x3 m_text m_length m_commands m_commandMany
def f_X6_read (m_text : (Nat → Int32)) (m_length : Int32) (m_commands : (Nat → Int32)) (m_commandMany : Int32) : Option (Int32 × (Nat → Int32) × Int32) :=
  f_X6_read_b12 1000 (0 : Int32) (-9 : Int32) (0 : Int32) m_text m_length m_commands (0 : Int32)
set_option maxHeartbeats 4000000 in
set_option maxRecDepth 100000 in
theorem c_X6_read (l : Launch) (D : va_G) (cI cZ cN : ClassId) (aK aV : Nat → Nat)  (qm : Nat) (qm_w : Nat) (qm_past : Nat) (qm_images : Nat) (qm_text : Nat) (qm_may : Nat) (qm_least : Nat) (qm_isCarried : Nat) (qm_list : Nat) (qm_nodes : Nat) (qm_kept : Nat) (qm_keptLow : Nat) (qm_keptHigh : Nat) (qm_keptNodes : Nat) (qm_numbers : Nat) (qm_sums : Nat) (qm_commands : Nat) (qm_held : Nat) (m_pastMany : Int32) (m_filled : Int32) (m_text : (Nat → Int32)) (m_length : Int32) (m_listMany : Int32) (m_went : Int32) (m_cost : Int32) (m_cause : Int32) (m_looks : Int32) (m_isSent : Int32) (m_isOld : Int32) (m_keptMany : Int32) (m_commands : (Nat → Int32)) (m_commandMany : Int32) (r : Int32) (z_m_commands : (Nat → Int32)) (z_m_commandMany : Int32) (h : f_X6_read m_text m_length m_commands m_commandMany = some (r, z_m_commands, z_m_commandMany)) : CtI l D cI cZ cN aK aV yX6_read (k_W yX6_read cX6_read 7 (some .int)) { frames := 2, cells := 0, slots := 0, locals := 47 } [.ref qm] [(qm, .inr (6, [.ref qm_w, .ref qm_past, .int m_pastMany, .ref qm_images, .int m_filled, .ref qm_text, .int m_length, .ref qm_may, .ref qm_least, .ref qm_isCarried, .ref qm_list, .ref qm_nodes, .int m_listMany, .int m_went, .int m_cost, .int m_cause, .int m_looks, .int m_isSent, .int m_isOld, .ref qm_kept, .ref qm_keptLow, .ref qm_keptHigh, .int m_keptMany, .ref qm_keptNodes, .ref qm_numbers, .ref qm_sums, .ref qm_commands, .int m_commandMany, .ref qm_held])), (qm_text, .inl (cI, 80, .inl m_text)), (qm_commands, .inl (cI, 320, .inl m_commands))] r [(qm, .inr (6, [.ref qm_w, .ref qm_past, .int m_pastMany, .ref qm_images, .int m_filled, .ref qm_text, .int m_length, .ref qm_may, .ref qm_least, .ref qm_isCarried, .ref qm_list, .ref qm_nodes, .int m_listMany, .int m_went, .int m_cost, .int m_cause, .int m_looks, .int m_isSent, .int m_isOld, .ref qm_kept, .ref qm_keptLow, .ref qm_keptHigh, .int m_keptMany, .ref qm_keptNodes, .ref qm_numbers, .ref qm_sums, .ref qm_commands, .int z_m_commandMany, .ref qm_held])), (qm_text, .inl (cI, 80, .inl m_text)), (qm_commands, .inl (cI, 320, .inl z_m_commands))] := by
  refine k_startI (by decide) (Nat.le_of_ble_eq_true rfl) ?_
  intro p e s m below meth c A ls hx hb hr hml hown hts hlocks hT hZ hA hP hD hS hl
  have hK := hT.1
  have hu : ∀ w ∈ k_U, w.before ([.ref qm] : List Value).toArray s = true := fun w h => hts w (List.mem_cons_of_mem _ h)
  have hown : s.vm.findClass RX6 = some m.cls := hown
  have hl : lv_has ls 7 [(0, .ref qm)] := hl
  unfold f_X6_read at h
  have w12 : ∀ (n12 : Nat) (x1 : Int32) (x2 : Int32) (x3 : Int32) (m_text : (Nat → Int32)) (m_length : Int32) (m_commands : (Nat → Int32)) (m_commandMany : Int32) (H : Heap) (locs : List Loc) (ls : Array Slot), va_P D vwCl [(qm, .inr (6, [.ref qm_w, .ref qm_past, .int m_pastMany, .ref qm_images, .int m_filled, .ref qm_text, .int m_length, .ref qm_may, .ref qm_least, .ref qm_isCarried, .ref qm_list, .ref qm_nodes, .int m_listMany, .int m_went, .int m_cost, .int m_cause, .int m_looks, .int m_isSent, .int m_isOld, .ref qm_kept, .ref qm_keptLow, .ref qm_keptHigh, .int m_keptMany, .ref qm_keptNodes, .ref qm_numbers, .ref qm_sums, .ref qm_commands, .int m_commandMany, .ref qm_held])), (qm_text, .inl (cI, 80, .inl m_text)), (qm_commands, .inl (cI, 320, .inl m_commands))] H → va_D A [(qm, .inr (6, [.ref qm_w, .ref qm_past, .int m_pastMany, .ref qm_images, .int m_filled, .ref qm_text, .int m_length, .ref qm_may, .ref qm_least, .ref qm_isCarried, .ref qm_list, .ref qm_nodes, .int m_listMany, .int m_went, .int m_cost, .int m_cause, .int m_looks, .int m_isSent, .int m_isOld, .ref qm_kept, .ref qm_keptLow, .ref qm_keptHigh, .int m_keptMany, .ref qm_keptNodes, .ref qm_numbers, .ref qm_sums, .ref qm_commands, .int m_commandMany, .ref qm_held])), (qm_text, .inl (cI, 80, .inl m_text)), (qm_commands, .inl (cI, 320, .inl m_commands))] → va_S A s.heap H locs → lv_has ls 7 [(0, .ref qm), (1, .int x1), (2, .int x2), (3, .int x3)] → f_X6_read_b12 n12 x1 x2 x3 m_text m_length m_commands m_commandMany = some (r, z_m_commands, z_m_commandMany) → W p l e { frames := 2, cells := 0, slots := 0, locals := 47 } s m ([.ref qm] : List Value).toArray below meth c H locs 0 0 (MQ below (k_QI D r [(qm, .inr (6, [.ref qm_w, .ref qm_past, .int m_pastMany, .ref qm_images, .int m_filled, .ref qm_text, .int m_length, .ref qm_may, .ref qm_least, .ref qm_isCarried, .ref qm_list, .ref qm_nodes, .int m_listMany, .int m_went, .int m_cost, .int m_cause, .int m_looks, .int m_isSent, .int m_isOld, .ref qm_kept, .ref qm_keptLow, .ref qm_keptHigh, .int m_keptMany, .ref qm_keptNodes, .ref qm_numbers, .ref qm_sums, .ref qm_commands, .int z_m_commandMany, .ref qm_held])), (qm_text, .inl (cI, 80, .inl m_text)), (qm_commands, .inl (cI, 320, .inl z_m_commands))] A) ([.ref qm] : List Value).toArray s 0 0 A) (F0 m 12 ls []) := by
    intro n12
    induction n12 with
    | zero =>
      intro x1 x2 x3 m_text m_length m_commands m_commandMany H locs ls hP hD hS hl h
      rw [f_X6_read_b12] at h
      cases h
    | succ n12 ih12 =>
      intro x1 x2 x3 m_text m_length m_commands m_commandMany H locs ls hP hD hS hl h
      rw [f_X6_read_b12] at h
      have w23 : ∀ (n23 : Nat) (x1 : Int32) (x2 : Int32) (x3 : Int32) (x4 : Int32) (m_text : (Nat → Int32)) (m_length : Int32) (m_commands : (Nat → Int32)) (m_commandMany : Int32) (H : Heap) (locs : List Loc) (ls : Array Slot), va_P D vwCl [(qm, .inr (6, [.ref qm_w, .ref qm_past, .int m_pastMany, .ref qm_images, .int m_filled, .ref qm_text, .int m_length, .ref qm_may, .ref qm_least, .ref qm_isCarried, .ref qm_list, .ref qm_nodes, .int m_listMany, .int m_went, .int m_cost, .int m_cause, .int m_looks, .int m_isSent, .int m_isOld, .ref qm_kept, .ref qm_keptLow, .ref qm_keptHigh, .int m_keptMany, .ref qm_keptNodes, .ref qm_numbers, .ref qm_sums, .ref qm_commands, .int m_commandMany, .ref qm_held])), (qm_text, .inl (cI, 80, .inl m_text)), (qm_commands, .inl (cI, 320, .inl m_commands))] H → va_D A [(qm, .inr (6, [.ref qm_w, .ref qm_past, .int m_pastMany, .ref qm_images, .int m_filled, .ref qm_text, .int m_length, .ref qm_may, .ref qm_least, .ref qm_isCarried, .ref qm_list, .ref qm_nodes, .int m_listMany, .int m_went, .int m_cost, .int m_cause, .int m_looks, .int m_isSent, .int m_isOld, .ref qm_kept, .ref qm_keptLow, .ref qm_keptHigh, .int m_keptMany, .ref qm_keptNodes, .ref qm_numbers, .ref qm_sums, .ref qm_commands, .int m_commandMany, .ref qm_held])), (qm_text, .inl (cI, 80, .inl m_text)), (qm_commands, .inl (cI, 320, .inl m_commands))] → va_S A s.heap H locs → lv_has ls 7 [(0, .ref qm), (1, .int x1), (2, .int x2), (3, .int x3), (4, .int x4)] → f_X6_read_b23 (f_X6_read_b12 n12) n23 x1 x2 x3 x4 m_text m_length m_commands m_commandMany = some (r, z_m_commands, z_m_commandMany) → W p l e { frames := 2, cells := 0, slots := 0, locals := 47 } s m ([.ref qm] : List Value).toArray below meth c H locs 0 0 (MQ below (k_QI D r [(qm, .inr (6, [.ref qm_w, .ref qm_past, .int m_pastMany, .ref qm_images, .int m_filled, .ref qm_text, .int m_length, .ref qm_may, .ref qm_least, .ref qm_isCarried, .ref qm_list, .ref qm_nodes, .int m_listMany, .int m_went, .int m_cost, .int m_cause, .int m_looks, .int m_isSent, .int m_isOld, .ref qm_kept, .ref qm_keptLow, .ref qm_keptHigh, .int m_keptMany, .ref qm_keptNodes, .ref qm_numbers, .ref qm_sums, .ref qm_commands, .int z_m_commandMany, .ref qm_held])), (qm_text, .inl (cI, 80, .inl m_text)), (qm_commands, .inl (cI, 320, .inl z_m_commands))] A) ([.ref qm] : List Value).toArray s 0 0 A) (F0 m 23 ls []) := by
        intro n23
        induction n23 with
        | zero =>
          intro x1 x2 x3 x4 m_text m_length m_commands m_commandMany H locs ls hP hD hS hl h
          rw [f_X6_read_b23] at h
          cases h
        | succ n23 ih23 =>
          intro x1 x2 x3 x4 m_text m_length m_commands m_commandMany H locs ls hP hD hS hl h
          rw [f_X6_read_b23] at h
          have w48 : ∀  (x1 : Int32) (x2 : Int32) (x3 : Int32) (x4 : Int32) (m_text : (Nat → Int32)) (m_length : Int32) (m_commands : (Nat → Int32)) (m_commandMany : Int32) (H : Heap) (locs : List Loc) (ls : Array Slot), va_P D vwCl [(qm, .inr (6, [.ref qm_w, .ref qm_past, .int m_pastMany, .ref qm_images, .int m_filled, .ref qm_text, .int m_length, .ref qm_may, .ref qm_least, .ref qm_isCarried, .ref qm_list, .ref qm_nodes, .int m_listMany, .int m_went, .int m_cost, .int m_cause, .int m_looks, .int m_isSent, .int m_isOld, .ref qm_kept, .ref qm_keptLow, .ref qm_keptHigh, .int m_keptMany, .ref qm_keptNodes, .ref qm_numbers, .ref qm_sums, .ref qm_commands, .int m_commandMany, .ref qm_held])), (qm_text, .inl (cI, 80, .inl m_text)), (qm_commands, .inl (cI, 320, .inl m_commands))] H → va_D A [(qm, .inr (6, [.ref qm_w, .ref qm_past, .int m_pastMany, .ref qm_images, .int m_filled, .ref qm_text, .int m_length, .ref qm_may, .ref qm_least, .ref qm_isCarried, .ref qm_list, .ref qm_nodes, .int m_listMany, .int m_went, .int m_cost, .int m_cause, .int m_looks, .int m_isSent, .int m_isOld, .ref qm_kept, .ref qm_keptLow, .ref qm_keptHigh, .int m_keptMany, .ref qm_keptNodes, .ref qm_numbers, .ref qm_sums, .ref qm_commands, .int m_commandMany, .ref qm_held])), (qm_text, .inl (cI, 80, .inl m_text)), (qm_commands, .inl (cI, 320, .inl m_commands))] → va_S A s.heap H locs → lv_has ls 7 [(0, .ref qm), (1, .int x1), (2, .int x2), (3, .int x3), (4, .int x4)] → f_X6_read_b48 (f_X6_read_b12 n12) x1 x2 x3 x4 m_text m_length m_commands m_commandMany = some (r, z_m_commands, z_m_commandMany) → W p l e { frames := 2, cells := 0, slots := 0, locals := 47 } s m ([.ref qm] : List Value).toArray below meth c H locs 0 0 (MQ below (k_QI D r [(qm, .inr (6, [.ref qm_w, .ref qm_past, .int m_pastMany, .ref qm_images, .int m_filled, .ref qm_text, .int m_length, .ref qm_may, .ref qm_least, .ref qm_isCarried, .ref qm_list, .ref qm_nodes, .int m_listMany, .int m_went, .int m_cost, .int m_cause, .int m_looks, .int m_isSent, .int m_isOld, .ref qm_kept, .ref qm_keptLow, .ref qm_keptHigh, .int m_keptMany, .ref qm_keptNodes, .ref qm_numbers, .ref qm_sums, .ref qm_commands, .int z_m_commandMany, .ref qm_held])), (qm_text, .inl (cI, 80, .inl m_text)), (qm_commands, .inl (cI, 320, .inl z_m_commands))] A) ([.ref qm] : List Value).toArray s 0 0 A) (F0 m 48 ls []) := by
            intro x1 x2 x3 x4 m_text m_length m_commands m_commandMany H locs ls hP hD hS hl h
            unfold f_X6_read_b48 at h
            have w205 : ∀  (x1 : Int32) (x2 : Int32) (x3 : Int32) (m_text : (Nat → Int32)) (m_length : Int32) (m_commands : (Nat → Int32)) (m_commandMany : Int32) (H : Heap) (locs : List Loc) (ls : Array Slot), va_P D vwCl [(qm, .inr (6, [.ref qm_w, .ref qm_past, .int m_pastMany, .ref qm_images, .int m_filled, .ref qm_text, .int m_length, .ref qm_may, .ref qm_least, .ref qm_isCarried, .ref qm_list, .ref qm_nodes, .int m_listMany, .int m_went, .int m_cost, .int m_cause, .int m_looks, .int m_isSent, .int m_isOld, .ref qm_kept, .ref qm_keptLow, .ref qm_keptHigh, .int m_keptMany, .ref qm_keptNodes, .ref qm_numbers, .ref qm_sums, .ref qm_commands, .int m_commandMany, .ref qm_held])), (qm_text, .inl (cI, 80, .inl m_text)), (qm_commands, .inl (cI, 320, .inl m_commands))] H → va_D A [(qm, .inr (6, [.ref qm_w, .ref qm_past, .int m_pastMany, .ref qm_images, .int m_filled, .ref qm_text, .int m_length, .ref qm_may, .ref qm_least, .ref qm_isCarried, .ref qm_list, .ref qm_nodes, .int m_listMany, .int m_went, .int m_cost, .int m_cause, .int m_looks, .int m_isSent, .int m_isOld, .ref qm_kept, .ref qm_keptLow, .ref qm_keptHigh, .int m_keptMany, .ref qm_keptNodes, .ref qm_numbers, .ref qm_sums, .ref qm_commands, .int m_commandMany, .ref qm_held])), (qm_text, .inl (cI, 80, .inl m_text)), (qm_commands, .inl (cI, 320, .inl m_commands))] → va_S A s.heap H locs → lv_has ls 7 [(0, .ref qm), (1, .int x1), (2, .int x2), (3, .int x3)] → f_X6_read_b205 (f_X6_read_b12 n12) x1 x2 x3 m_text m_length m_commands m_commandMany = some (r, z_m_commands, z_m_commandMany) → W p l e { frames := 2, cells := 0, slots := 0, locals := 47 } s m ([.ref qm] : List Value).toArray below meth c H locs 0 0 (MQ below (k_QI D r [(qm, .inr (6, [.ref qm_w, .ref qm_past, .int m_pastMany, .ref qm_images, .int m_filled, .ref qm_text, .int m_length, .ref qm_may, .ref qm_least, .ref qm_isCarried, .ref qm_list, .ref qm_nodes, .int m_listMany, .int m_went, .int m_cost, .int m_cause, .int m_looks, .int m_isSent, .int m_isOld, .ref qm_kept, .ref qm_keptLow, .ref qm_keptHigh, .int m_keptMany, .ref qm_keptNodes, .ref qm_numbers, .ref qm_sums, .ref qm_commands, .int z_m_commandMany, .ref qm_held])), (qm_text, .inl (cI, 80, .inl m_text)), (qm_commands, .inl (cI, 320, .inl z_m_commands))] A) ([.ref qm] : List Value).toArray s 0 0 A) (F0 m 205 ls []) := by
              intro x1 x2 x3 m_text m_length m_commands m_commandMany H locs ls hP hD hS hl h
              unfold f_X6_read_b205 at h
              refine lv_iload_n hx hb dX6_read_205 rfl (lv_at hl 3 rfl) ?_
              refine lv_iload_n hx hb dX6_read_206 rfl (lv_at hl 3 rfl) ?_
              refine lv_aload_n hx hb dX6_read_207 rfl (lv_at hl 0 rfl) ?_
              refine va_get (D := D) (ci := 6) (v := .int m_length) (C := RX6) (T := TX6) (N := 29) hx hb hu k_iX6 hown hK hP 0 rfl rfl 6 (by decide) (hu _ u_724) (fun _ h9 => h9) rfl dX6_read_208 ?_
              refine lv_icmp_ge (tgt := 218) hx hb dX6_read_211 (by decide) (fun cc_22 => ?_) (fun cc_22 => ?_)
              · have h := (if_pos cc_22).symm.trans h
                refine lv_iconst (v := (0 : Int32)) hx hb dX6_read_218 (by decide) ?_
                refine lv_iadd hx hb dX6_read_219 ?_
                refine lv_istore_n (lv' := [(3, .int (x3 + (0 : Int32))), (0, .ref qm), (1, .int x1), (2, .int x2)]) hx hb dX6_read_220 rfl hl (by decide) rfl (fun ls hl => ?_)
                refine lv_goto (tgt := 12) hx hb dX6_read_221 (by decide) ?_
                exact ih12 x1 x2 (x3 + (0 : Int32)) m_text m_length m_commands m_commandMany _ _ _ hP hD hS (lv_sub hl [1, 2, 3, 0] rfl) h
              · have h := (if_neg cc_22).symm.trans h
                refine lv_iconst (v := (1 : Int32)) hx hb dX6_read_214 (by decide) ?_
                refine lv_goto (tgt := 219) hx hb dX6_read_215 (by decide) ?_
                refine lv_iadd hx hb dX6_read_219 ?_
                refine lv_istore_n (lv' := [(3, .int (x3 + (1 : Int32))), (0, .ref qm), (1, .int x1), (2, .int x2)]) hx hb dX6_read_220 rfl hl (by decide) rfl (fun ls hl => ?_)
                refine lv_goto (tgt := 12) hx hb dX6_read_221 (by decide) ?_
                exact ih12 x1 x2 (x3 + (1 : Int32)) m_text m_length m_commands m_commandMany _ _ _ hP hD hS (lv_sub hl [1, 2, 3, 0] rfl) h
            have w109 : ∀  (x1 : Int32) (x2 : Int32) (x3 : Int32) (x4 : Int32) (x5 : Int32) (s0 : Int32) (m_text : (Nat → Int32)) (m_length : Int32) (m_commands : (Nat → Int32)) (m_commandMany : Int32) (H : Heap) (locs : List Loc) (ls : Array Slot), va_P D vwCl [(qm, .inr (6, [.ref qm_w, .ref qm_past, .int m_pastMany, .ref qm_images, .int m_filled, .ref qm_text, .int m_length, .ref qm_may, .ref qm_least, .ref qm_isCarried, .ref qm_list, .ref qm_nodes, .int m_listMany, .int m_went, .int m_cost, .int m_cause, .int m_looks, .int m_isSent, .int m_isOld, .ref qm_kept, .ref qm_keptLow, .ref qm_keptHigh, .int m_keptMany, .ref qm_keptNodes, .ref qm_numbers, .ref qm_sums, .ref qm_commands, .int m_commandMany, .ref qm_held])), (qm_text, .inl (cI, 80, .inl m_text)), (qm_commands, .inl (cI, 320, .inl m_commands))] H → va_D A [(qm, .inr (6, [.ref qm_w, .ref qm_past, .int m_pastMany, .ref qm_images, .int m_filled, .ref qm_text, .int m_length, .ref qm_may, .ref qm_least, .ref qm_isCarried, .ref qm_list, .ref qm_nodes, .int m_listMany, .int m_went, .int m_cost, .int m_cause, .int m_looks, .int m_isSent, .int m_isOld, .ref qm_kept, .ref qm_keptLow, .ref qm_keptHigh, .int m_keptMany, .ref qm_keptNodes, .ref qm_numbers, .ref qm_sums, .ref qm_commands, .int m_commandMany, .ref qm_held])), (qm_text, .inl (cI, 80, .inl m_text)), (qm_commands, .inl (cI, 320, .inl m_commands))] → va_S A s.heap H locs → lv_has ls 7 [(0, .ref qm), (1, .int x1), (2, .int x2), (3, .int x3), (4, .int x4), (5, .int x5)] → f_X6_read_b109 (f_X6_read_b12 n12) x1 x2 x3 x4 x5 s0 m_text m_length m_commands m_commandMany = some (r, z_m_commands, z_m_commandMany) → W p l e { frames := 2, cells := 0, slots := 0, locals := 47 } s m ([.ref qm] : List Value).toArray below meth c H locs 0 0 (MQ below (k_QI D r [(qm, .inr (6, [.ref qm_w, .ref qm_past, .int m_pastMany, .ref qm_images, .int m_filled, .ref qm_text, .int m_length, .ref qm_may, .ref qm_least, .ref qm_isCarried, .ref qm_list, .ref qm_nodes, .int m_listMany, .int m_went, .int m_cost, .int m_cause, .int m_looks, .int m_isSent, .int m_isOld, .ref qm_kept, .ref qm_keptLow, .ref qm_keptHigh, .int m_keptMany, .ref qm_keptNodes, .ref qm_numbers, .ref qm_sums, .ref qm_commands, .int z_m_commandMany, .ref qm_held])), (qm_text, .inl (cI, 80, .inl m_text)), (qm_commands, .inl (cI, 320, .inl z_m_commands))] A) ([.ref qm] : List Value).toArray s 0 0 A) (F0 m 109 ls [.int s0]) := by
              intro x1 x2 x3 x4 x5 s0 m_text m_length m_commands m_commandMany H locs ls hP hD hS hl h
              unfold f_X6_read_b109 at h
              have w129 : ∀  (x1 : Int32) (x3 : Int32) (x4 : Int32) (x5 : Int32) (s0 : Int32) (m_text : (Nat → Int32)) (m_length : Int32) (m_commands : (Nat → Int32)) (m_commandMany : Int32) (H : Heap) (locs : List Loc) (ls : Array Slot), va_P D vwCl [(qm, .inr (6, [.ref qm_w, .ref qm_past, .int m_pastMany, .ref qm_images, .int m_filled, .ref qm_text, .int m_length, .ref qm_may, .ref qm_least, .ref qm_isCarried, .ref qm_list, .ref qm_nodes, .int m_listMany, .int m_went, .int m_cost, .int m_cause, .int m_looks, .int m_isSent, .int m_isOld, .ref qm_kept, .ref qm_keptLow, .ref qm_keptHigh, .int m_keptMany, .ref qm_keptNodes, .ref qm_numbers, .ref qm_sums, .ref qm_commands, .int m_commandMany, .ref qm_held])), (qm_text, .inl (cI, 80, .inl m_text)), (qm_commands, .inl (cI, 320, .inl m_commands))] H → va_D A [(qm, .inr (6, [.ref qm_w, .ref qm_past, .int m_pastMany, .ref qm_images, .int m_filled, .ref qm_text, .int m_length, .ref qm_may, .ref qm_least, .ref qm_isCarried, .ref qm_list, .ref qm_nodes, .int m_listMany, .int m_went, .int m_cost, .int m_cause, .int m_looks, .int m_isSent, .int m_isOld, .ref qm_kept, .ref qm_keptLow, .ref qm_keptHigh, .int m_keptMany, .ref qm_keptNodes, .ref qm_numbers, .ref qm_sums, .ref qm_commands, .int m_commandMany, .ref qm_held])), (qm_text, .inl (cI, 80, .inl m_text)), (qm_commands, .inl (cI, 320, .inl m_commands))] → va_S A s.heap H locs → lv_has ls 7 [(0, .ref qm), (1, .int x1), (3, .int x3), (4, .int x4), (5, .int x5)] → f_X6_read_b129 (f_X6_read_b12 n12) x1 x3 x4 x5 s0 m_text m_length m_commands m_commandMany = some (r, z_m_commands, z_m_commandMany) → W p l e { frames := 2, cells := 0, slots := 0, locals := 47 } s m ([.ref qm] : List Value).toArray below meth c H locs 0 0 (MQ below (k_QI D r [(qm, .inr (6, [.ref qm_w, .ref qm_past, .int m_pastMany, .ref qm_images, .int m_filled, .ref qm_text, .int m_length, .ref qm_may, .ref qm_least, .ref qm_isCarried, .ref qm_list, .ref qm_nodes, .int m_listMany, .int m_went, .int m_cost, .int m_cause, .int m_looks, .int m_isSent, .int m_isOld, .ref qm_kept, .ref qm_keptLow, .ref qm_keptHigh, .int m_keptMany, .ref qm_keptNodes, .ref qm_numbers, .ref qm_sums, .ref qm_commands, .int z_m_commandMany, .ref qm_held])), (qm_text, .inl (cI, 80, .inl m_text)), (qm_commands, .inl (cI, 320, .inl z_m_commands))] A) ([.ref qm] : List Value).toArray s 0 0 A) (F0 m 129 ls [.int s0]) := by
                intro x1 x3 x4 x5 s0 m_text m_length m_commands m_commandMany H locs ls hP hD hS hl h
                unfold f_X6_read_b129 at h
                have w181 : ∀  (x1 : Int32) (x2 : Int32) (x3 : Int32) (s0 : Int32) (s1 : Int32) (m_text : (Nat → Int32)) (m_length : Int32) (m_commands : (Nat → Int32)) (m_commandMany : Int32) (H : Heap) (locs : List Loc) (ls : Array Slot), va_P D vwCl [(qm, .inr (6, [.ref qm_w, .ref qm_past, .int m_pastMany, .ref qm_images, .int m_filled, .ref qm_text, .int m_length, .ref qm_may, .ref qm_least, .ref qm_isCarried, .ref qm_list, .ref qm_nodes, .int m_listMany, .int m_went, .int m_cost, .int m_cause, .int m_looks, .int m_isSent, .int m_isOld, .ref qm_kept, .ref qm_keptLow, .ref qm_keptHigh, .int m_keptMany, .ref qm_keptNodes, .ref qm_numbers, .ref qm_sums, .ref qm_commands, .int m_commandMany, .ref qm_held])), (qm_text, .inl (cI, 80, .inl m_text)), (qm_commands, .inl (cI, 320, .inl m_commands))] H → va_D A [(qm, .inr (6, [.ref qm_w, .ref qm_past, .int m_pastMany, .ref qm_images, .int m_filled, .ref qm_text, .int m_length, .ref qm_may, .ref qm_least, .ref qm_isCarried, .ref qm_list, .ref qm_nodes, .int m_listMany, .int m_went, .int m_cost, .int m_cause, .int m_looks, .int m_isSent, .int m_isOld, .ref qm_kept, .ref qm_keptLow, .ref qm_keptHigh, .int m_keptMany, .ref qm_keptNodes, .ref qm_numbers, .ref qm_sums, .ref qm_commands, .int m_commandMany, .ref qm_held])), (qm_text, .inl (cI, 80, .inl m_text)), (qm_commands, .inl (cI, 320, .inl m_commands))] → va_S A s.heap H locs → lv_has ls 7 [(0, .ref qm), (1, .int x1), (2, .int x2), (3, .int x3)] → f_X6_read_b181 (f_X6_read_b12 n12) x1 x2 x3 s0 s1 m_text m_length m_commands m_commandMany = some (r, z_m_commands, z_m_commandMany) → W p l e { frames := 2, cells := 0, slots := 0, locals := 47 } s m ([.ref qm] : List Value).toArray below meth c H locs 0 0 (MQ below (k_QI D r [(qm, .inr (6, [.ref qm_w, .ref qm_past, .int m_pastMany, .ref qm_images, .int m_filled, .ref qm_text, .int m_length, .ref qm_may, .ref qm_least, .ref qm_isCarried, .ref qm_list, .ref qm_nodes, .int m_listMany, .int m_went, .int m_cost, .int m_cause, .int m_looks, .int m_isSent, .int m_isOld, .ref qm_kept, .ref qm_keptLow, .ref qm_keptHigh, .int m_keptMany, .ref qm_keptNodes, .ref qm_numbers, .ref qm_sums, .ref qm_commands, .int z_m_commandMany, .ref qm_held])), (qm_text, .inl (cI, 80, .inl m_text)), (qm_commands, .inl (cI, 320, .inl z_m_commands))] A) ([.ref qm] : List Value).toArray s 0 0 A) (F0 m 181 ls [.int s0, .int s1, .ref qm_commands]) := by
                  intro x1 x2 x3 s0 s1 m_text m_length m_commands m_commandMany H locs ls hP hD hS hl h
                  unfold f_X6_read_b181 at h
                  obtain ⟨hin_20, h⟩ := ob_if h
                  have hin_20 := inb_in hin_20
                  refine va_iast (D := D) hx hb hK hP hD hS 2 0 rfl rfl hin_20 dX6_read_181 (fun H locs hP hD hS => ?_)
                  have hP : va_P D vwCl [(qm, .inr (6, [.ref qm_w, .ref qm_past, .int m_pastMany, .ref qm_images, .int m_filled, .ref qm_text, .int m_length, .ref qm_may, .ref qm_least, .ref qm_isCarried, .ref qm_list, .ref qm_nodes, .int m_listMany, .int m_went, .int m_cost, .int m_cause, .int m_looks, .int m_isSent, .int m_isOld, .ref qm_kept, .ref qm_keptLow, .ref qm_keptHigh, .int m_keptMany, .ref qm_keptNodes, .ref qm_numbers, .ref qm_sums, .ref qm_commands, .int m_commandMany, .ref qm_held])), (qm_text, .inl (cI, 80, .inl m_text)), (qm_commands, .inl (cI, 320, .inl (upd m_commands (Int32.toNatClampNeg s1) s0)))] H := hP
                  have hD : va_D A [(qm, .inr (6, [.ref qm_w, .ref qm_past, .int m_pastMany, .ref qm_images, .int m_filled, .ref qm_text, .int m_length, .ref qm_may, .ref qm_least, .ref qm_isCarried, .ref qm_list, .ref qm_nodes, .int m_listMany, .int m_went, .int m_cost, .int m_cause, .int m_looks, .int m_isSent, .int m_isOld, .ref qm_kept, .ref qm_keptLow, .ref qm_keptHigh, .int m_keptMany, .ref qm_keptNodes, .ref qm_numbers, .ref qm_sums, .ref qm_commands, .int m_commandMany, .ref qm_held])), (qm_text, .inl (cI, 80, .inl m_text)), (qm_commands, .inl (cI, 320, .inl (upd m_commands (Int32.toNatClampNeg s1) s0)))] := hD
                  refine lv_iinc (v := (x1 + (1 : Int32))) (lv' := [(1, .int (x1 + (1 : Int32))), (0, .ref qm), (2, .int x2), (3, .int x3)]) hx hb dX6_read_182 hl (k := 1) rfl rfl (by decide) rfl (fun ls hl => ?_)
                  refine lv_iload_n hx hb dX6_read_185 rfl (lv_at hl 0 rfl) ?_
                  refine lv_iload_n hx hb dX6_read_186 rfl (lv_at hl 2 rfl) ?_
                  refine k_call0 (As := [.int x2]) (rest := [.int (x1 + (1 : Int32))]) ⟨hx, hb, hml, hown, hts⟩ hT hZ hA hP hD hS (c_X6_partsOf l D cI cZ cN aK aV x2 _ rfl) ⟨callB_of 1 hts (k_good u_1008) rfl rfl rfl (hu _ u_51) (hu _ u_1006) (by decide +kernel) ⟨Nat.le_of_ble_eq_true rfl, Nat.le_of_ble_eq_true rfl⟩, hu _ u_1007⟩ rfl hl.1 rfl (Nat.le_of_ble_eq_true rfl) dX6_read_187 (fun H locs hP hD hS => ?_)
                  refine lv_icmp_ne (tgt := 205) hx hb dX6_read_190 (by decide) (fun cc_21 => ?_) (fun cc_21 => ?_)
                  · have h := (if_neg cc_21).symm.trans h
                    exact w205 (x1 + (1 : Int32)) x2 x3 m_text m_length (upd m_commands (Int32.toNatClampNeg s1) s0) m_commandMany _ _ _ hP hD hS (lv_sub hl [1, 0, 2, 3] rfl) h
                  · have h := (if_pos cc_21).symm.trans h
                    refine lv_aload_n hx hb dX6_read_193 rfl (lv_at hl 1 rfl) ?_
                    refine lv_dup hx hb dX6_read_194 rfl ?_
                    refine va_get (D := D) (ci := 6) (v := .int m_commandMany) (C := RX6) (T := TX6) (N := 29) hx hb hu k_iX6 hown hK hP 0 rfl rfl 27 (by decide) (hu _ u_745) (fun _ h9 => h9) rfl dX6_read_195 ?_
                    refine lv_iconst (v := (1 : Int32)) hx hb dX6_read_198 (by decide) ?_
                    refine lv_iadd hx hb dX6_read_199 ?_
                    refine va_put (D := D) (ci := 6) (v := .int (m_commandMany + (1 : Int32))) (ty := .int) (C := RX6) (T := TX6) (N := 29) hx hb hu k_iX6 tyX6 tyX6_ok nmX6 hown hK hP hD hS 0 rfl rfl 27 (by decide) (hu _ u_745) (fun _ h9 => h9) rfl (by decide +kernel) rfl rfl (Nat.le_of_ble_eq_true rfl) dX6_read_200 (fun H locs hP hD hS => ?_)
                    have hP : va_P D vwCl [(qm, .inr (6, [.ref qm_w, .ref qm_past, .int m_pastMany, .ref qm_images, .int m_filled, .ref qm_text, .int m_length, .ref qm_may, .ref qm_least, .ref qm_isCarried, .ref qm_list, .ref qm_nodes, .int m_listMany, .int m_went, .int m_cost, .int m_cause, .int m_looks, .int m_isSent, .int m_isOld, .ref qm_kept, .ref qm_keptLow, .ref qm_keptHigh, .int m_keptMany, .ref qm_keptNodes, .ref qm_numbers, .ref qm_sums, .ref qm_commands, .int (m_commandMany + (1 : Int32)), .ref qm_held])), (qm_text, .inl (cI, 80, .inl m_text)), (qm_commands, .inl (cI, 320, .inl (upd m_commands (Int32.toNatClampNeg s1) s0)))] H := hP
                    have hD : va_D A [(qm, .inr (6, [.ref qm_w, .ref qm_past, .int m_pastMany, .ref qm_images, .int m_filled, .ref qm_text, .int m_length, .ref qm_may, .ref qm_least, .ref qm_isCarried, .ref qm_list, .ref qm_nodes, .int m_listMany, .int m_went, .int m_cost, .int m_cause, .int m_looks, .int m_isSent, .int m_isOld, .ref qm_kept, .ref qm_keptLow, .ref qm_keptHigh, .int m_keptMany, .ref qm_keptNodes, .ref qm_numbers, .ref qm_sums, .ref qm_commands, .int (m_commandMany + (1 : Int32)), .ref qm_held])), (qm_text, .inl (cI, 80, .inl m_text)), (qm_commands, .inl (cI, 320, .inl (upd m_commands (Int32.toNatClampNeg s1) s0)))] := hD
                    refine lv_iconst (v := (0 : Int32)) hx hb dX6_read_203 (by decide) ?_
                    refine lv_istore_n (lv' := [(1, .int (0 : Int32)), (0, .ref qm), (2, .int x2), (3, .int x3)]) hx hb dX6_read_204 rfl hl (by decide) rfl (fun ls hl => ?_)
                    exact w205 (0 : Int32) x2 x3 m_text m_length (upd m_commands (Int32.toNatClampNeg s1) s0) (m_commandMany + (1 : Int32)) _ _ _ hP hD hS (lv_sub hl [1, 0, 2, 3] rfl) h
                refine lv_istore_n (lv' := [(2, .int s0), (0, .ref qm), (1, .int x1), (3, .int x3), (4, .int x4), (5, .int x5)]) hx hb dX6_read_129 rfl hl (by decide) rfl (fun ls hl => ?_)
                refine lv_aload_n hx hb dX6_read_130 rfl (lv_at hl 1 rfl) ?_
                refine va_get (D := D) (ci := 6) (v := .ref qm_commands) (C := RX6) (T := TX6) (N := 29) hx hb hu k_iX6 hown hK hP 0 rfl rfl 26 (by decide) (hu _ u_744) (fun _ h9 => h9) rfl dX6_read_131 ?_
                refine lv_iconst (v := (4 : Int32)) hx hb dX6_read_134 (by decide) ?_
                refine lv_aload_n hx hb dX6_read_135 rfl (lv_at hl 1 rfl) ?_
                refine va_get (D := D) (ci := 6) (v := .int m_commandMany) (C := RX6) (T := TX6) (N := 29) hx hb hu k_iX6 hown hK hP 0 rfl rfl 27 (by decide) (hu _ u_745) (fun _ h9 => h9) rfl dX6_read_136 ?_
                refine lv_imul hx hb dX6_read_139 ?_
                refine lv_iload_n hx hb dX6_read_140 rfl (lv_at hl 2 rfl) ?_
                refine lv_iadd hx hb dX6_read_141 ?_
                refine lv_iload_n hx hb dX6_read_142 rfl (lv_at hl 2 rfl) ?_
                refine lv_if_ne (tgt := 151) hx hb dX6_read_143 (by decide) (fun cc_16 => ?_) (fun cc_16 => ?_)
                · have h := (if_neg cc_16).symm.trans h
                  refine lv_iload hx hb dX6_read_151 (lv_at hl 5 rfl) ?_
                  refine lv_bipush (v := (20 : Int32)) hx hb dX6_read_153 (by decide) ?_
                  refine lv_icmp_ne (tgt := 171) hx hb dX6_read_155 (by decide) (fun cc_17 => ?_) (fun cc_17 => ?_)
                  · have h := (if_neg cc_17).symm.trans h
                    refine lv_aload_n hx hb dX6_read_171 rfl (lv_at hl 1 rfl) ?_
                    refine va_get (D := D) (ci := 6) (v := .ref qm_text) (C := RX6) (T := TX6) (N := 29) hx hb hu k_iX6 hown hK hP 0 rfl rfl 5 (by decide) (hu _ u_723) (fun _ h9 => h9) rfl dX6_read_172 ?_
                    refine lv_iload hx hb dX6_read_175 (lv_at hl 4 rfl) ?_
                    obtain ⟨hin_18, h⟩ := ob_if h
                    have hin_18 := inb_in hin_18
                    refine va_iald (D := D) hx hb hK hP 1 0 rfl rfl hin_18 dX6_read_177 ?_
                    refine lv_bipush (v := (48 : Int32)) hx hb dX6_read_178 (by decide) ?_
                    refine lv_isub hx hb dX6_read_180 ?_
                    exact w181 x1 s0 x3 ((m_text (Int32.toNatClampNeg x4)) - (48 : Int32)) (((4 : Int32) * m_commandMany) + x1) m_text m_length m_commands m_commandMany _ _ _ hP hD hS (lv_sub hl [1, 2, 0, 3] rfl) h
                  · have h := (if_pos cc_17).symm.trans h
                    refine lv_aload_n hx hb dX6_read_158 rfl (lv_at hl 1 rfl) ?_
                    refine va_get (D := D) (ci := 6) (v := .ref qm_text) (C := RX6) (T := TX6) (N := 29) hx hb hu k_iX6 hown hK hP 0 rfl rfl 5 (by decide) (hu _ u_723) (fun _ h9 => h9) rfl dX6_read_159 ?_
                    refine lv_iload hx hb dX6_read_162 (lv_at hl 4 rfl) ?_
                    obtain ⟨hin_19, h⟩ := ob_if h
                    have hin_19 := inb_in hin_19
                    refine va_iald (D := D) hx hb hK hP 1 0 rfl rfl hin_19 dX6_read_164 ?_
                    refine lv_bipush (v := (97 : Int32)) hx hb dX6_read_165 (by decide) ?_
                    refine lv_isub hx hb dX6_read_167 ?_
                    refine lv_goto (tgt := 181) hx hb dX6_read_168 (by decide) ?_
                    exact w181 x1 s0 x3 ((m_text (Int32.toNatClampNeg x4)) - (97 : Int32)) (((4 : Int32) * m_commandMany) + x1) m_text m_length m_commands m_commandMany _ _ _ hP hD hS (lv_sub hl [1, 2, 0, 3] rfl) h
                · have h := (if_pos cc_16).symm.trans h
                  refine lv_iload hx hb dX6_read_146 (lv_at hl 5 rfl) ?_
                  refine lv_goto (tgt := 181) hx hb dX6_read_148 (by decide) ?_
                  exact w181 x1 s0 x3 x5 (((4 : Int32) * m_commandMany) + x1) m_text m_length m_commands m_commandMany _ _ _ hP hD hS (lv_sub hl [1, 2, 0, 3] rfl) h
              refine lv_istore (lv' := [(6, .int s0), (0, .ref qm), (1, .int x1), (2, .int x2), (3, .int x3), (4, .int x4), (5, .int x5)]) hx hb dX6_read_109 hl (by decide) rfl (fun ls hl => ?_)
              refine lv_iload hx hb dX6_read_111 (lv_at hl 0 rfl) ?_
              refine lv_if_ne (tgt := 119) hx hb dX6_read_113 (by decide) (fun cc_14 => ?_) (fun cc_14 => ?_)
              · have h := (if_neg cc_14).symm.trans h
                refine lv_iload_n hx hb dX6_read_119 rfl (lv_at hl 2 rfl) ?_
                refine lv_if_ne (tgt := 128) hx hb dX6_read_120 (by decide) (fun cc_15 => ?_) (fun cc_15 => ?_)
                · have h := (if_neg cc_15).symm.trans h
                  refine lv_iload_n hx hb dX6_read_128 rfl (lv_at hl 3 rfl) ?_
                  exact w129 x1 x3 x4 x5 x2 m_text m_length m_commands m_commandMany _ _ _ hP hD hS (lv_sub hl [1, 2, 4, 5, 6] rfl) h
                · have h := (if_pos cc_15).symm.trans h
                  refine lv_iload hx hb dX6_read_123 (lv_at hl 6 rfl) ?_
                  refine lv_goto (tgt := 129) hx hb dX6_read_125 (by decide) ?_
                  exact w129 x1 x3 x4 x5 x5 m_text m_length m_commands m_commandMany _ _ _ hP hD hS (lv_sub hl [1, 2, 4, 5, 6] rfl) h
              · have h := (if_pos cc_14).symm.trans h
                refine lv_iload hx hb dX6_read_116 (lv_at hl 5 rfl) ?_
                have hq := Option.some.inj h
                clear h
                obtain ⟨e0, hq0⟩ := Prod.mk.inj hq
                clear hq
                obtain ⟨e1, hq1⟩ := Prod.mk.inj hq0
                clear hq0
                subst e0
                subst e1
                subst hq1
                exact k_retI hx hb hr hlocks hP hD hS dX6_read_118
            refine lv_iload_n hx hb dX6_read_48 rfl (lv_at hl 3 rfl) ?_
            refine lv_iload hx hb dX6_read_49 (lv_at hl 4 rfl) ?_
            refine lv_icmp_le (tgt := 205) hx hb dX6_read_51 (by decide) (fun cc_6 => ?_) (fun cc_6 => ?_)
            · have h := (if_pos cc_6).symm.trans h
              exact w205 x1 x2 x3 m_text m_length m_commands m_commandMany _ _ _ hP hD hS (lv_sub hl [0, 1, 2, 3] rfl) h
            · have h := (if_neg cc_6).symm.trans h
              refine lv_aload_n hx hb dX6_read_54 rfl (lv_at hl 0 rfl) ?_
              refine lv_iload hx hb dX6_read_55 (lv_at hl 4 rfl) ?_
              refine lv_iload_n hx hb dX6_read_57 rfl (lv_at hl 3 rfl) ?_
              obtain ⟨r_7, hc_8, h⟩ := ob_bind h
              refine k_callVIr (qb := 0) [0, 1] (As := [.int x4, .int x3]) (rest := []) ⟨hx, hb, hml, hown, hts⟩ hT hZ hA hP hD hS (c_X6_kindOf l D cI cZ cN aK aV qm qm_w qm_past qm_images qm_text qm_may qm_least qm_isCarried qm_list qm_nodes qm_kept qm_keptLow qm_keptHigh qm_keptNodes qm_numbers qm_sums qm_commands qm_held m_pastMany m_filled m_text m_length m_listMany m_went m_cost m_cause m_looks m_isSent m_isOld m_keptMany m_commandMany x4 x3 r_7 hc_8) ⟨callB_of 2 hts (k_good u_998) rfl rfl rfl (hu _ u_51) (hu _ u_995) (by decide +kernel) ⟨Nat.le_of_ble_eq_true rfl, Nat.le_of_ble_eq_true rfl⟩, hu _ u_997, hu _ u_41⟩ rfl rfl rfl (by decide) rfl hl.1 rfl (Nat.le_of_ble_eq_true rfl) dX6_read_58 (fun H locs hP hD hS => ?_)
              refine lv_istore (lv' := [(5, .int r_7), (0, .ref qm), (1, .int x1), (2, .int x2), (3, .int x3), (4, .int x4)]) hx hb dX6_read_61 hl (by decide) rfl (fun ls hl => ?_)
              refine lv_iload_n hx hb dX6_read_63 rfl (lv_at hl 2 rfl) ?_
              refine lv_if_ne (tgt := 77) hx hb dX6_read_64 (by decide) (fun cc_9 => ?_) (fun cc_9 => ?_)
              · have h := (if_neg cc_9).symm.trans h
                refine lv_iload hx hb dX6_read_77 (lv_at hl 0 rfl) ?_
                refine lv_iload_n hx hb dX6_read_79 rfl (lv_at hl 3 rfl) ?_
                refine lv_iload_n hx hb dX6_read_80 rfl (lv_at hl 2 rfl) ?_
                refine k_call0 (As := [.int x2, .int x1]) (rest := [.int r_7]) ⟨hx, hb, hml, hown, hts⟩ hT hZ hA hP hD hS (c_X6_wanted l D cI cZ cN aK aV x2 x1 _ rfl) ⟨callB_of 2 hts (k_good u_1005) rfl rfl rfl (hu _ u_51) (hu _ u_1003) (by decide +kernel) ⟨Nat.le_of_ble_eq_true rfl, Nat.le_of_ble_eq_true rfl⟩, hu _ u_1004⟩ rfl hl.1 rfl (Nat.le_of_ble_eq_true rfl) dX6_read_81 (fun H locs hP hD hS => ?_)
                refine lv_icmp_ne (tgt := 108) hx hb dX6_read_84 (by decide) (fun cc_10 => ?_) (fun cc_10 => ?_)
                · have h := (if_neg cc_10).symm.trans h
                  refine lv_iconst (v := (0 : Int32)) hx hb dX6_read_108 (by decide) ?_
                  exact w109 x1 x2 x3 x4 r_7 (0 : Int32) m_text m_length m_commands m_commandMany _ _ _ hP hD hS (lv_sub hl [1, 2, 3, 4, 5, 0] rfl) h
                · have h := (if_pos cc_10).symm.trans h
                  refine lv_iload_n hx hb dX6_read_87 rfl (lv_at hl 3 rfl) ?_
                  refine lv_iconst (v := (4 : Int32)) hx hb dX6_read_88 (by decide) ?_
                  refine lv_icmp_ne (tgt := 104) hx hb dX6_read_89 (by decide) (fun cc_11 => ?_) (fun cc_11 => ?_)
                  · have h := (if_neg cc_11).symm.trans h
                    refine lv_iconst (v := (1 : Int32)) hx hb dX6_read_104 (by decide) ?_
                    refine lv_goto (tgt := 109) hx hb dX6_read_105 (by decide) ?_
                    exact w109 x1 x2 x3 x4 r_7 (1 : Int32) m_text m_length m_commands m_commandMany _ _ _ hP hD hS (lv_sub hl [1, 2, 3, 4, 5, 0] rfl) h
                  · have h := (if_pos cc_11).symm.trans h
                    refine lv_aload_n hx hb dX6_read_92 rfl (lv_at hl 1 rfl) ?_
                    refine va_get (D := D) (ci := 6) (v := .ref qm_text) (C := RX6) (T := TX6) (N := 29) hx hb hu k_iX6 hown hK hP 0 rfl rfl 5 (by decide) (hu _ u_723) (fun _ h9 => h9) rfl dX6_read_93 ?_
                    refine lv_iload hx hb dX6_read_96 (lv_at hl 5 rfl) ?_
                    obtain ⟨hin_12, h⟩ := ob_if h
                    have hin_12 := inb_in hin_12
                    refine va_iald (D := D) hx hb hK hP 1 0 rfl rfl hin_12 dX6_read_98 ?_
                    refine lv_bipush (v := (49 : Int32)) hx hb dX6_read_99 (by decide) ?_
                    refine lv_icmp_eq (tgt := 108) hx hb dX6_read_101 (by decide) (fun cc_13 => ?_) (fun cc_13 => ?_)
                    · have h := (if_pos cc_13).symm.trans h
                      refine lv_iconst (v := (0 : Int32)) hx hb dX6_read_108 (by decide) ?_
                      exact w109 x1 x2 x3 x4 r_7 (0 : Int32) m_text m_length m_commands m_commandMany _ _ _ hP hD hS (lv_sub hl [1, 2, 3, 4, 5, 0] rfl) h
                    · have h := (if_neg cc_13).symm.trans h
                      refine lv_iconst (v := (1 : Int32)) hx hb dX6_read_104 (by decide) ?_
                      refine lv_goto (tgt := 109) hx hb dX6_read_105 (by decide) ?_
                      exact w109 x1 x2 x3 x4 r_7 (1 : Int32) m_text m_length m_commands m_commandMany _ _ _ hP hD hS (lv_sub hl [1, 2, 3, 4, 5, 0] rfl) h
              · have h := (if_pos cc_9).symm.trans h
                refine lv_iload hx hb dX6_read_67 (lv_at hl 0 rfl) ?_
                refine lv_iconst (v := (0 : Int32)) hx hb dX6_read_69 (by decide) ?_
                refine lv_iconst (v := (4 : Int32)) hx hb dX6_read_70 (by decide) ?_
                refine k_call0 (As := [.int r_7, .int (0 : Int32), .int (4 : Int32)]) (rest := []) ⟨hx, hb, hml, hown, hts⟩ hT hZ hA hP hD hS (c_X6_isIn l D cI cZ cN aK aV r_7 (0 : Int32) (4 : Int32) _ rfl) ⟨callB_of 3 hts (k_good u_812) rfl rfl rfl (hu _ u_51) (hu _ u_810) (by decide +kernel) ⟨Nat.le_of_ble_eq_true rfl, Nat.le_of_ble_eq_true rfl⟩, hu _ u_811⟩ rfl hl.1 rfl (Nat.le_of_ble_eq_true rfl) dX6_read_71 (fun H locs hP hD hS => ?_)
                refine lv_goto (tgt := 109) hx hb dX6_read_74 (by decide) ?_
                exact w109 x1 x2 x3 x4 r_7 (f_X6_isIn r_7 (0 : Int32) (4 : Int32)) m_text m_length m_commands m_commandMany _ _ _ hP hD hS (lv_sub hl [1, 2, 3, 4, 5, 0] rfl) h
          refine lv_iload_n hx hb dX6_read_23 rfl (lv_at hl 3 rfl) ?_
          refine lv_aload_n hx hb dX6_read_24 rfl (lv_at hl 0 rfl) ?_
          refine va_get (D := D) (ci := 6) (v := .int m_length) (C := RX6) (T := TX6) (N := 29) hx hb hu k_iX6 hown hK hP 0 rfl rfl 6 (by decide) (hu _ u_724) (fun _ h9 => h9) rfl dX6_read_25 ?_
          refine lv_icmp_ge (tgt := 48) hx hb dX6_read_28 (by decide) (fun cc_3 => ?_) (fun cc_3 => ?_)
          · have h := (if_pos cc_3).symm.trans h
            exact w48 x1 x2 x3 x4 m_text m_length m_commands m_commandMany _ _ _ hP hD hS (lv_sub hl [0, 1, 2, 3, 4] rfl) h
          · have h := (if_neg cc_3).symm.trans h
            refine lv_aload_n hx hb dX6_read_31 rfl (lv_at hl 0 rfl) ?_
            refine va_get (D := D) (ci := 6) (v := .ref qm_text) (C := RX6) (T := TX6) (N := 29) hx hb hu k_iX6 hown hK hP 0 rfl rfl 5 (by decide) (hu _ u_723) (fun _ h9 => h9) rfl dX6_read_32 ?_
            refine lv_iload_n hx hb dX6_read_35 rfl (lv_at hl 3 rfl) ?_
            obtain ⟨hin_4, h⟩ := ob_if h
            have hin_4 := inb_in hin_4
            refine va_iald (D := D) hx hb hK hP 1 0 rfl rfl hin_4 dX6_read_36 ?_
            refine lv_bipush (v := (32 : Int32)) hx hb dX6_read_37 (by decide) ?_
            refine lv_icmp_eq (tgt := 48) hx hb dX6_read_39 (by decide) (fun cc_5 => ?_) (fun cc_5 => ?_)
            · have h := (if_pos cc_5).symm.trans h
              exact w48 x1 x2 x3 x4 m_text m_length m_commands m_commandMany _ _ _ hP hD hS (lv_sub hl [0, 1, 2, 3, 4] rfl) h
            · have h := (if_neg cc_5).symm.trans h
              refine lv_iinc (v := (x3 + (1 : Int32))) (lv' := [(3, .int (x3 + (1 : Int32))), (0, .ref qm), (1, .int x1), (2, .int x2), (4, .int x4)]) hx hb dX6_read_42 hl (k := 3) rfl rfl (by decide) rfl (fun ls hl => ?_)
              refine lv_goto (tgt := 23) hx hb dX6_read_45 (by decide) ?_
              exact ih23 x1 x2 (x3 + (1 : Int32)) x4 m_text m_length m_commands m_commandMany _ _ _ hP hD hS (lv_sub hl [1, 2, 3, 0, 4] rfl) h
      refine lv_iload_n hx hb dX6_read_12 rfl (lv_at hl 3 rfl) ?_
      refine lv_aload_n hx hb dX6_read_13 rfl (lv_at hl 0 rfl) ?_
      refine va_get (D := D) (ci := 6) (v := .int m_length) (C := RX6) (T := TX6) (N := 29) hx hb hu k_iX6 hown hK hP 0 rfl rfl 6 (by decide) (hu _ u_724) (fun _ h9 => h9) rfl dX6_read_14 ?_
      refine lv_icmp_ge (tgt := 224) hx hb dX6_read_17 (by decide) (fun cc_1 => ?_) (fun cc_1 => ?_)
      · have h := (if_pos cc_1).symm.trans h
        refine lv_iload_n hx hb dX6_read_224 rfl (lv_at hl 1 rfl) ?_
        refine lv_if_ne (tgt := 233) hx hb dX6_read_225 (by decide) (fun cc_2 => ?_) (fun cc_2 => ?_)
        · have h := (if_neg cc_2).symm.trans h
          refine lv_aload_n hx hb dX6_read_233 rfl (lv_at hl 0 rfl) ?_
          refine va_get (D := D) (ci := 6) (v := .int m_length) (C := RX6) (T := TX6) (N := 29) hx hb hu k_iX6 hown hK hP 0 rfl rfl 6 (by decide) (hu _ u_724) (fun _ h9 => h9) rfl dX6_read_234 ?_
          have hq := Option.some.inj h
          clear h
          obtain ⟨e0, hq0⟩ := Prod.mk.inj hq
          clear hq
          obtain ⟨e1, hq1⟩ := Prod.mk.inj hq0
          clear hq0
          subst e0
          subst e1
          subst hq1
          exact k_retI hx hb hr hlocks hP hD hS dX6_read_237
        · have h := (if_pos cc_2).symm.trans h
          refine lv_bipush (v := (-9 : Int32)) hx hb dX6_read_228 (by decide) ?_
          refine lv_goto (tgt := 237) hx hb dX6_read_230 (by decide) ?_
          have hq := Option.some.inj h
          clear h
          obtain ⟨e0, hq0⟩ := Prod.mk.inj hq
          clear hq
          obtain ⟨e1, hq1⟩ := Prod.mk.inj hq0
          clear hq0
          subst e0
          subst e1
          subst hq1
          exact k_retI hx hb hr hlocks hP hD hS dX6_read_237
      · have h := (if_neg cc_1).symm.trans h
        refine lv_iload_n hx hb dX6_read_20 rfl (lv_at hl 3 rfl) ?_
        refine lv_istore (lv' := [(4, .int x3), (0, .ref qm), (1, .int x1), (2, .int x2), (3, .int x3)]) hx hb dX6_read_21 hl (by decide) rfl (fun ls hl => ?_)
        exact w23 1000 x1 x2 x3 x3 m_text m_length m_commands m_commandMany _ _ _ hP hD hS (lv_sub hl [1, 2, 3, 4, 0] rfl) h
  refine lv_aload_n hx hb dX6_read_0 rfl (lv_at hl 0 rfl) ?_
  refine lv_iconst (v := (0 : Int32)) hx hb dX6_read_1 (by decide) ?_
  refine va_put (D := D) (ci := 6) (v := .int (0 : Int32)) (ty := .int) (C := RX6) (T := TX6) (N := 29) hx hb hu k_iX6 tyX6 tyX6_ok nmX6 hown hK hP hD hS 0 rfl rfl 27 (by decide) (hu _ u_745) (fun _ h9 => h9) rfl (by decide +kernel) rfl rfl (Nat.le_of_ble_eq_true rfl) dX6_read_2 (fun H locs hP hD hS => ?_)
  have hP : va_P D vwCl [(qm, .inr (6, [.ref qm_w, .ref qm_past, .int m_pastMany, .ref qm_images, .int m_filled, .ref qm_text, .int m_length, .ref qm_may, .ref qm_least, .ref qm_isCarried, .ref qm_list, .ref qm_nodes, .int m_listMany, .int m_went, .int m_cost, .int m_cause, .int m_looks, .int m_isSent, .int m_isOld, .ref qm_kept, .ref qm_keptLow, .ref qm_keptHigh, .int m_keptMany, .ref qm_keptNodes, .ref qm_numbers, .ref qm_sums, .ref qm_commands, .int (0 : Int32), .ref qm_held])), (qm_text, .inl (cI, 80, .inl m_text)), (qm_commands, .inl (cI, 320, .inl m_commands))] H := hP
  have hD : va_D A [(qm, .inr (6, [.ref qm_w, .ref qm_past, .int m_pastMany, .ref qm_images, .int m_filled, .ref qm_text, .int m_length, .ref qm_may, .ref qm_least, .ref qm_isCarried, .ref qm_list, .ref qm_nodes, .int m_listMany, .int m_went, .int m_cost, .int m_cause, .int m_looks, .int m_isSent, .int m_isOld, .ref qm_kept, .ref qm_keptLow, .ref qm_keptHigh, .int m_keptMany, .ref qm_keptNodes, .ref qm_numbers, .ref qm_sums, .ref qm_commands, .int (0 : Int32), .ref qm_held])), (qm_text, .inl (cI, 80, .inl m_text)), (qm_commands, .inl (cI, 320, .inl m_commands))] := hD
  refine lv_iconst (v := (0 : Int32)) hx hb dX6_read_5 (by decide) ?_
  refine lv_istore_n (lv' := [(1, .int (0 : Int32)), (0, .ref qm)]) hx hb dX6_read_6 rfl hl (by decide) rfl (fun ls hl => ?_)
  refine lv_bipush (v := (-9 : Int32)) hx hb dX6_read_7 (by decide) ?_
  refine lv_istore_n (lv' := [(2, .int (-9 : Int32)), (1, .int (0 : Int32)), (0, .ref qm)]) hx hb dX6_read_9 rfl hl (by decide) rfl (fun ls hl => ?_)
  refine lv_iconst (v := (0 : Int32)) hx hb dX6_read_10 (by decide) ?_
  refine lv_istore_n (lv' := [(3, .int (0 : Int32)), (2, .int (-9 : Int32)), (1, .int (0 : Int32)), (0, .ref qm)]) hx hb dX6_read_11 rfl hl (by decide) rfl (fun ls hl => ?_)
  exact w12 1000 (0 : Int32) (-9 : Int32) (0 : Int32) m_text m_length m_commands (0 : Int32) _ _ _ hP hD hS (lv_sub hl [3, 2, 1, 0] rfl) h
def f_X6_fault (m_text : (Nat → Int32)) (m_length : Int32) (m_commands : (Nat → Int32)) (m_commandMany : Int32) : Option (Int32 × (Nat → Int32) × Int32) :=
  (f_X6_read m_text m_length m_commands m_commandMany).bind fun ⟨r_1, o_2, o_3⟩ =>
  some (r_1, o_2, o_3)
set_option maxHeartbeats 4000000 in
set_option maxRecDepth 100000 in
theorem c_X6_fault (l : Launch) (D : va_G) (cI cZ cN : ClassId) (aK aV : Nat → Nat)  (qm : Nat) (qm_w : Nat) (qm_past : Nat) (qm_images : Nat) (qm_text : Nat) (qm_may : Nat) (qm_least : Nat) (qm_isCarried : Nat) (qm_list : Nat) (qm_nodes : Nat) (qm_kept : Nat) (qm_keptLow : Nat) (qm_keptHigh : Nat) (qm_keptNodes : Nat) (qm_numbers : Nat) (qm_sums : Nat) (qm_commands : Nat) (qm_held : Nat) (m_pastMany : Int32) (m_filled : Int32) (m_text : (Nat → Int32)) (m_length : Int32) (m_listMany : Int32) (m_went : Int32) (m_cost : Int32) (m_cause : Int32) (m_looks : Int32) (m_isSent : Int32) (m_isOld : Int32) (m_keptMany : Int32) (m_commands : (Nat → Int32)) (m_commandMany : Int32) (r : Int32) (z_m_commands : (Nat → Int32)) (z_m_commandMany : Int32) (h : f_X6_fault m_text m_length m_commands m_commandMany = some (r, z_m_commands, z_m_commandMany)) : CtI l D cI cZ cN aK aV yX6_fault (k_W yX6_fault cX6_fault 1 (some .int)) { frames := 3, cells := 0, slots := 0, locals := 73 } [.ref qm] [(qm, .inr (6, [.ref qm_w, .ref qm_past, .int m_pastMany, .ref qm_images, .int m_filled, .ref qm_text, .int m_length, .ref qm_may, .ref qm_least, .ref qm_isCarried, .ref qm_list, .ref qm_nodes, .int m_listMany, .int m_went, .int m_cost, .int m_cause, .int m_looks, .int m_isSent, .int m_isOld, .ref qm_kept, .ref qm_keptLow, .ref qm_keptHigh, .int m_keptMany, .ref qm_keptNodes, .ref qm_numbers, .ref qm_sums, .ref qm_commands, .int m_commandMany, .ref qm_held])), (qm_text, .inl (cI, 80, .inl m_text)), (qm_commands, .inl (cI, 320, .inl m_commands))] r [(qm, .inr (6, [.ref qm_w, .ref qm_past, .int m_pastMany, .ref qm_images, .int m_filled, .ref qm_text, .int m_length, .ref qm_may, .ref qm_least, .ref qm_isCarried, .ref qm_list, .ref qm_nodes, .int m_listMany, .int m_went, .int m_cost, .int m_cause, .int m_looks, .int m_isSent, .int m_isOld, .ref qm_kept, .ref qm_keptLow, .ref qm_keptHigh, .int m_keptMany, .ref qm_keptNodes, .ref qm_numbers, .ref qm_sums, .ref qm_commands, .int z_m_commandMany, .ref qm_held])), (qm_text, .inl (cI, 80, .inl m_text)), (qm_commands, .inl (cI, 320, .inl z_m_commands))] := by
  refine k_startI (by decide) (Nat.le_of_ble_eq_true rfl) ?_
  intro p e s m below meth c A ls hx hb hr hml hown hts hlocks hT hZ hA hP hD hS hl
  have hK := hT.1
  have hu : ∀ w ∈ k_U, w.before ([.ref qm] : List Value).toArray s = true := fun w h => hts w (List.mem_cons_of_mem _ h)
  have hown : s.vm.findClass RX6 = some m.cls := hown
  have hl : lv_has ls 1 [(0, .ref qm)] := hl
  unfold f_X6_fault at h
  refine lv_aload_n hx hb dX6_fault_0 rfl (lv_at hl 0 rfl) ?_
  obtain ⟨⟨r_1, o_2, o_3⟩, hc_4, h⟩ := ob_bind h
  dsimp only at h
  refine k_callVI (qb := 0) [0, 1, 2] [0, 2] [0, 2] [(qm, .inr (6, [.ref qm_w, .ref qm_past, .int m_pastMany, .ref qm_images, .int m_filled, .ref qm_text, .int m_length, .ref qm_may, .ref qm_least, .ref qm_isCarried, .ref qm_list, .ref qm_nodes, .int m_listMany, .int m_went, .int m_cost, .int m_cause, .int m_looks, .int m_isSent, .int m_isOld, .ref qm_kept, .ref qm_keptLow, .ref qm_keptHigh, .int m_keptMany, .ref qm_keptNodes, .ref qm_numbers, .ref qm_sums, .ref qm_commands, .int o_3, .ref qm_held])), (qm_commands, .inl (cI, 320, .inl o_2))] (As := []) (rest := []) ⟨hx, hb, hml, hown, hts⟩ hT hZ hA hP hD hS (c_X6_read l D cI cZ cN aK aV qm qm_w qm_past qm_images qm_text qm_may qm_least qm_isCarried qm_list qm_nodes qm_kept qm_keptLow qm_keptHigh qm_keptNodes qm_numbers qm_sums qm_commands qm_held m_pastMany m_filled m_text m_length m_listMany m_went m_cost m_cause m_looks m_isSent m_isOld m_keptMany m_commands m_commandMany r_1 o_2 o_3 hc_4) ⟨callB_of 0 hts (k_good u_994) rfl rfl rfl (hu _ u_51) (hu _ u_991) (by decide +kernel) ⟨Nat.le_of_ble_eq_true rfl, Nat.le_of_ble_eq_true rfl⟩, hu _ u_993, hu _ u_40⟩ rfl rfl rfl (by decide) (by decide) (by decide) rfl rfl rfl rfl hl.1 rfl (Nat.le_of_ble_eq_true rfl) dX6_fault_1 (fun H locs hP hD hS => ?_)
  have hP : va_P D vwCl [(qm, .inr (6, [.ref qm_w, .ref qm_past, .int m_pastMany, .ref qm_images, .int m_filled, .ref qm_text, .int m_length, .ref qm_may, .ref qm_least, .ref qm_isCarried, .ref qm_list, .ref qm_nodes, .int m_listMany, .int m_went, .int m_cost, .int m_cause, .int m_looks, .int m_isSent, .int m_isOld, .ref qm_kept, .ref qm_keptLow, .ref qm_keptHigh, .int m_keptMany, .ref qm_keptNodes, .ref qm_numbers, .ref qm_sums, .ref qm_commands, .int o_3, .ref qm_held])), (qm_text, .inl (cI, 80, .inl m_text)), (qm_commands, .inl (cI, 320, .inl o_2))] H := hP
  have hD : va_D A [(qm, .inr (6, [.ref qm_w, .ref qm_past, .int m_pastMany, .ref qm_images, .int m_filled, .ref qm_text, .int m_length, .ref qm_may, .ref qm_least, .ref qm_isCarried, .ref qm_list, .ref qm_nodes, .int m_listMany, .int m_went, .int m_cost, .int m_cause, .int m_looks, .int m_isSent, .int m_isOld, .ref qm_kept, .ref qm_keptLow, .ref qm_keptHigh, .int m_keptMany, .ref qm_keptNodes, .ref qm_numbers, .ref qm_sums, .ref qm_commands, .int o_3, .ref qm_held])), (qm_text, .inl (cI, 80, .inl m_text)), (qm_commands, .inl (cI, 320, .inl o_2))] := hD
  have hq := Option.some.inj h
  clear h
  obtain ⟨e0, hq0⟩ := Prod.mk.inj hq
  clear hq
  obtain ⟨e1, hq1⟩ := Prod.mk.inj hq0
  clear hq0
  subst e0
  subst e1
  subst hq1
  exact k_retI hx hb hr hlocks hP hD hS dX6_fault_4
