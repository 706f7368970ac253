def f_X6_letter (p1 : Int32) (m_isSent : Int32) (m_numbers : (Nat → Int32)) : Option (Int32) :=
  if (f_X6_isIn p1 (0 : Int32) (5 : Int32)) = (0 : Int32) then
    some ((-1 : Int32))
  else
    if m_isSent = (0 : Int32) then
      some ((-2 : Int32))
    else
      if inb p1 6 = true then
      some ((m_numbers (Int32.toNatClampNeg p1)))
      else none
set_option maxHeartbeats 4000000 in
set_option maxRecDepth 100000 in
theorem c_X6_letter (l : Launch) (D : va_G) (cI cZ cN : ClassId) (aK aV : Nat → Nat)  (qm : Nat) (qm_w : Nat) (qm_past : Nat) (qm_images : Nat) (qm_text : Nat) (qm_may : Nat) (qm_least : Nat) (qm_isCarried : Nat) (qm_list : Nat) (qm_nodes : Nat) (qm_kept : Nat) (qm_keptLow : Nat) (qm_keptHigh : Nat) (qm_keptNodes : Nat) (qm_numbers : Nat) (qm_sums : Nat) (qm_commands : Nat) (qm_held : Nat) (m_pastMany : Int32) (m_filled : Int32) (m_length : Int32) (m_listMany : Int32) (m_went : Int32) (m_cost : Int32) (m_cause : Int32) (m_looks : Int32) (m_isSent : Int32) (m_isOld : Int32) (m_keptMany : Int32) (m_numbers : (Nat → Int32)) (m_commandMany : Int32) (p1 : Int32) (r : Int32) (h : f_X6_letter p1 m_isSent m_numbers = some r) : CtI l D cI cZ cN aK aV yX6_letter (k_W yX6_letter cX6_letter 2 (some .int)) { frames := 1, cells := 0, slots := 0, locals := 22 } [.ref qm, .int p1] [(qm, .inr (6, [.ref qm_w, .ref qm_past, .int m_pastMany, .ref qm_images, .int m_filled, .ref qm_text, .int m_length, .ref qm_may, .ref qm_least, .ref qm_isCarried, .ref qm_list, .ref qm_nodes, .int m_listMany, .int m_went, .int m_cost, .int m_cause, .int m_looks, .int m_isSent, .int m_isOld, .ref qm_kept, .ref qm_keptLow, .ref qm_keptHigh, .int m_keptMany, .ref qm_keptNodes, .ref qm_numbers, .ref qm_sums, .ref qm_commands, .int m_commandMany, .ref qm_held])), (qm_numbers, .inl (cI, 6, .inl m_numbers))] r [(qm, .inr (6, [.ref qm_w, .ref qm_past, .int m_pastMany, .ref qm_images, .int m_filled, .ref qm_text, .int m_length, .ref qm_may, .ref qm_least, .ref qm_isCarried, .ref qm_list, .ref qm_nodes, .int m_listMany, .int m_went, .int m_cost, .int m_cause, .int m_looks, .int m_isSent, .int m_isOld, .ref qm_kept, .ref qm_keptLow, .ref qm_keptHigh, .int m_keptMany, .ref qm_keptNodes, .ref qm_numbers, .ref qm_sums, .ref qm_commands, .int m_commandMany, .ref qm_held])), (qm_numbers, .inl (cI, 6, .inl m_numbers))] := by
  refine k_startI (by decide) (Nat.le_of_ble_eq_true rfl) ?_
  intro p e s m below meth c A ls hx hb hr hml hown hts hlocks hT hZ hA hP hD hS hl
  have hK := hT.1
  have hu : ∀ w ∈ k_U, w.before ([.ref qm, .int p1] : List Value).toArray s = true := fun w h => hts w (List.mem_cons_of_mem _ h)
  have hown : s.vm.findClass RX6 = some m.cls := hown
  have hl : lv_has ls 2 [(0, .ref qm), (1, .int p1)] := hl
  unfold f_X6_letter at h
  refine lv_iload_n hx hb dX6_letter_0 rfl (lv_at hl 1 rfl) ?_
  refine lv_iconst (v := (0 : Int32)) hx hb dX6_letter_1 (by decide) ?_
  refine lv_iconst (v := (5 : Int32)) hx hb dX6_letter_2 (by decide) ?_
  refine k_call0 (As := [.int p1, .int (0 : Int32), .int (5 : Int32)]) (rest := []) ⟨hx, hb, hml, hown, hts⟩ hT hZ hA hP hD hS (c_X6_isIn l D cI cZ cN aK aV p1 (0 : Int32) (5 : Int32) _ rfl) ⟨callB_of 3 hts (k_good u_812) rfl rfl rfl (hu _ u_51) (hu _ u_810) (by decide +kernel) ⟨Nat.le_of_ble_eq_true rfl, Nat.le_of_ble_eq_true rfl⟩, hu _ u_811⟩ rfl hl.1 rfl (Nat.le_of_ble_eq_true rfl) dX6_letter_3 (fun H locs hP hD hS => ?_)
  refine lv_if_ne (tgt := 11) hx hb dX6_letter_6 (by decide) (fun cc_1 => ?_) (fun cc_1 => ?_)
  · have h := (if_neg cc_1).symm.trans h
    refine lv_aload_n hx hb dX6_letter_11 rfl (lv_at hl 0 rfl) ?_
    refine va_get (D := D) (ci := 6) (v := .int m_isSent) (C := RX6) (T := TX6) (N := 29) hx hb hu k_iX6 hown hK hP 0 rfl rfl 17 (by decide) (hu _ u_735) (fun _ h9 => h9) rfl dX6_letter_12 ?_
    refine lv_if_eq (tgt := 27) hx hb dX6_letter_15 (by decide) (fun cc_2 => ?_) (fun cc_2 => ?_)
    · have h := (if_pos cc_2).symm.trans h
      refine lv_bipush (v := (-2 : Int32)) hx hb dX6_letter_27 (by decide) ?_
      have hq := Option.some.inj h
      clear h
      subst hq
      exact k_retI hx hb hr hlocks hP hD hS dX6_letter_29
    · have h := (if_neg cc_2).symm.trans h
      refine lv_aload_n hx hb dX6_letter_18 rfl (lv_at hl 0 rfl) ?_
      refine va_get (D := D) (ci := 6) (v := .ref qm_numbers) (C := RX6) (T := TX6) (N := 29) hx hb hu k_iX6 hown hK hP 0 rfl rfl 24 (by decide) (hu _ u_742) (fun _ h9 => h9) rfl dX6_letter_19 ?_
      refine lv_iload_n hx hb dX6_letter_22 rfl (lv_at hl 1 rfl) ?_
      obtain ⟨hin_3, h⟩ := ob_if h
      have hin_3 := inb_in hin_3
      refine va_iald (D := D) hx hb hK hP 1 0 rfl rfl hin_3 dX6_letter_23 ?_
      refine lv_goto (tgt := 29) hx hb dX6_letter_24 (by decide) ?_
      have hq := Option.some.inj h
      clear h
      subst hq
      exact k_retI hx hb hr hlocks hP hD hS dX6_letter_29
  · have h := (if_pos cc_1).symm.trans h
    refine lv_iconst (v := (-1 : Int32)) hx hb dX6_letter_9 (by decide) ?_
    have hq := Option.some.inj h
    clear h
    subst hq
    exact k_retI hx hb hr hlocks hP hD hS dX6_letter_10
def f_X6_passed (p1 : Int32) (m_isSent : Int32) (m_keptNodes : (Nat → Int32)) (m_numbers : (Nat → Int32)) : Option (Int32) :=
  if (0 : Int32) ≤ p1 then
    if m_isSent = (0 : Int32) then
      some ((-2 : Int32))
    else
      if (m_numbers (Int32.toNatClampNeg (0 : Int32))) < p1 then
        some ((-9 : Int32))
      else
        if inb p1 41 = true then
        some ((m_keptNodes (Int32.toNatClampNeg p1)))
        else none
  else
    some ((-1 : Int32))
set_option maxHeartbeats 4000000 in
set_option maxRecDepth 100000 in
theorem c_X6_passed (l : Launch) (D : va_G) (cI cZ cN : ClassId) (aK aV : Nat → Nat)  (qm : Nat) (qm_w : Nat) (qm_past : Nat) (qm_images : Nat) (qm_text : Nat) (qm_may : Nat) (qm_least : Nat) (qm_isCarried : Nat) (qm_list : Nat) (qm_nodes : Nat) (qm_kept : Nat) (qm_keptLow : Nat) (qm_keptHigh : Nat) (qm_keptNodes : Nat) (qm_numbers : Nat) (qm_sums : Nat) (qm_commands : Nat) (qm_held : Nat) (m_pastMany : Int32) (m_filled : Int32) (m_length : Int32) (m_listMany : Int32) (m_went : Int32) (m_cost : Int32) (m_cause : Int32) (m_looks : Int32) (m_isSent : Int32) (m_isOld : Int32) (m_keptMany : Int32) (m_keptNodes : (Nat → Int32)) (m_numbers : (Nat → Int32)) (m_commandMany : Int32) (p1 : Int32) (r : Int32) (h : f_X6_passed p1 m_isSent m_keptNodes m_numbers = some r) : CtI l D cI cZ cN aK aV yX6_passed (k_W yX6_passed cX6_passed 2 (some .int)) { frames := 0, cells := 0, slots := 0, locals := 0 } [.ref qm, .int p1] [(qm, .inr (6, [.ref qm_w, .ref qm_past, .int m_pastMany, .ref qm_images, .int m_filled, .ref qm_text, .int m_length, .ref qm_may, .ref qm_least, .ref qm_isCarried, .ref qm_list, .ref qm_nodes, .int m_listMany, .int m_went, .int m_cost, .int m_cause, .int m_looks, .int m_isSent, .int m_isOld, .ref qm_kept, .ref qm_keptLow, .ref qm_keptHigh, .int m_keptMany, .ref qm_keptNodes, .ref qm_numbers, .ref qm_sums, .ref qm_commands, .int m_commandMany, .ref qm_held])), (qm_keptNodes, .inl (cI, 41, .inl m_keptNodes)), (qm_numbers, .inl (cI, 6, .inl m_numbers))] r [(qm, .inr (6, [.ref qm_w, .ref qm_past, .int m_pastMany, .ref qm_images, .int m_filled, .ref qm_text, .int m_length, .ref qm_may, .ref qm_least, .ref qm_isCarried, .ref qm_list, .ref qm_nodes, .int m_listMany, .int m_went, .int m_cost, .int m_cause, .int m_looks, .int m_isSent, .int m_isOld, .ref qm_kept, .ref qm_keptLow, .ref qm_keptHigh, .int m_keptMany, .ref qm_keptNodes, .ref qm_numbers, .ref qm_sums, .ref qm_commands, .int m_commandMany, .ref qm_held])), (qm_keptNodes, .inl (cI, 41, .inl m_keptNodes)), (qm_numbers, .inl (cI, 6, .inl m_numbers))] := by
  refine k_startI (by decide) (Nat.le_of_ble_eq_true rfl) ?_
  intro p e s m below meth c A ls hx hb hr hml hown hts hlocks hT hZ hA hP hD hS hl
  have hK := hT.1
  have hu : ∀ w ∈ k_U, w.before ([.ref qm, .int p1] : List Value).toArray s = true := fun w h => hts w (List.mem_cons_of_mem _ h)
  have hown : s.vm.findClass RX6 = some m.cls := hown
  have hl : lv_has ls 2 [(0, .ref qm), (1, .int p1)] := hl
  unfold f_X6_passed at h
  refine lv_iload_n hx hb dX6_passed_0 rfl (lv_at hl 1 rfl) ?_
  refine lv_if_ge (tgt := 6) hx hb dX6_passed_1 (by decide) (fun cc_1 => ?_) (fun cc_1 => ?_)
  · have h := (if_pos cc_1).symm.trans h
    refine lv_aload_n hx hb dX6_passed_6 rfl (lv_at hl 0 rfl) ?_
    refine va_get (D := D) (ci := 6) (v := .int m_isSent) (C := RX6) (T := TX6) (N := 29) hx hb hu k_iX6 hown hK hP 0 rfl rfl 17 (by decide) (hu _ u_735) (fun _ h9 => h9) rfl dX6_passed_7 ?_
    refine lv_if_ne (tgt := 18) hx hb dX6_passed_10 (by decide) (fun cc_2 => ?_) (fun cc_2 => ?_)
    · have h := (if_neg cc_2).symm.trans h
      refine lv_iload_n hx hb dX6_passed_18 rfl (lv_at hl 1 rfl) ?_
      refine lv_aload_n hx hb dX6_passed_19 rfl (lv_at hl 0 rfl) ?_
      refine va_get (D := D) (ci := 6) (v := .ref qm_numbers) (C := RX6) (T := TX6) (N := 29) hx hb hu k_iX6 hown hK hP 0 rfl rfl 24 (by decide) (hu _ u_742) (fun _ h9 => h9) rfl dX6_passed_20 ?_
      refine lv_iconst (v := (0 : Int32)) hx hb dX6_passed_23 (by decide) ?_
      refine va_iald (D := D) hx hb hK hP 2 0 rfl rfl (inb_in (by decide)) dX6_passed_24 ?_
      refine lv_icmp_gt (tgt := 37) hx hb dX6_passed_25 (by decide) (fun cc_3 => ?_) (fun cc_3 => ?_)
      · have h := (if_pos cc_3).symm.trans h
        refine lv_bipush (v := (-9 : Int32)) hx hb dX6_passed_37 (by decide) ?_
        have hq := Option.some.inj h
        clear h
        subst hq
        exact k_retI hx hb hr hlocks hP hD hS dX6_passed_39
      · have h := (if_neg cc_3).symm.trans h
        refine lv_aload_n hx hb dX6_passed_28 rfl (lv_at hl 0 rfl) ?_
        refine va_get (D := D) (ci := 6) (v := .ref qm_keptNodes) (C := RX6) (T := TX6) (N := 29) hx hb hu k_iX6 hown hK hP 0 rfl rfl 23 (by decide) (hu _ u_741) (fun _ h9 => h9) rfl dX6_passed_29 ?_
        refine lv_iload_n hx hb dX6_passed_32 rfl (lv_at hl 1 rfl) ?_
        obtain ⟨hin_4, h⟩ := ob_if h
        have hin_4 := inb_in hin_4
        refine va_iald (D := D) hx hb hK hP 1 0 rfl rfl hin_4 dX6_passed_33 ?_
        refine lv_goto (tgt := 39) hx hb dX6_passed_34 (by decide) ?_
        have hq := Option.some.inj h
        clear h
        subst hq
        exact k_retI hx hb hr hlocks hP hD hS dX6_passed_39
    · have h := (if_pos cc_2).symm.trans h
      refine lv_bipush (v := (-2 : Int32)) hx hb dX6_passed_13 (by decide) ?_
      refine lv_goto (tgt := 39) hx hb dX6_passed_15 (by decide) ?_
      have hq := Option.some.inj h
      clear h
      subst hq
      exact k_retI hx hb hr hlocks hP hD hS dX6_passed_39
  · have h := (if_neg cc_1).symm.trans h
    refine lv_iconst (v := (-1 : Int32)) hx hb dX6_passed_4 (by decide) ?_
    have hq := Option.some.inj h
    clear h
    subst hq
    exact k_retI hx hb hr hlocks hP hD hS dX6_passed_5
def f_X6_carried (p1 : Int32) (p2 : Int32) (m_isSent : Int32) (m_keptLow : (Nat → Int32)) (m_keptHigh : (Nat → Int32)) (m_keptMany : Int32) : Option (Int32) :=
  if p1 < (0 : Int32) then
    some ((-1 : Int32))
  else
    if (f_X6_isIn p2 (0 : Int32) (1 : Int32)) = (0 : Int32) then
      some ((-1 : Int32))
    else
      if m_isSent = (0 : Int32) then
        some ((-2 : Int32))
      else
        if p1 < m_keptMany then
          if p2 = (0 : Int32) then
            if inb p1 18 = true then
            some ((m_keptLow (Int32.toNatClampNeg p1)))
            else none
          else
            if inb p1 18 = true then
            some ((m_keptHigh (Int32.toNatClampNeg p1)))
            else none
        else
          some ((-9 : Int32))
set_option maxHeartbeats 4000000 in
set_option maxRecDepth 100000 in
theorem c_X6_carried (l : Launch) (D : va_G) (cI cZ cN : ClassId) (aK aV : Nat → Nat)  (qm : Nat) (qm_w : Nat) (qm_past : Nat) (qm_images : Nat) (qm_text : Nat) (qm_may : Nat) (qm_least : Nat) (qm_isCarried : Nat) (qm_list : Nat) (qm_nodes : Nat) (qm_kept : Nat) (qm_keptLow : Nat) (qm_keptHigh : Nat) (qm_keptNodes : Nat) (qm_numbers : Nat) (qm_sums : Nat) (qm_commands : Nat) (qm_held : Nat) (m_pastMany : Int32) (m_filled : Int32) (m_length : Int32) (m_listMany : Int32) (m_went : Int32) (m_cost : Int32) (m_cause : Int32) (m_looks : Int32) (m_isSent : Int32) (m_isOld : Int32) (m_keptLow : (Nat → Int32)) (m_keptHigh : (Nat → Int32)) (m_keptMany : Int32) (m_commandMany : Int32) (p1 p2 : Int32) (r : Int32) (h : f_X6_carried p1 p2 m_isSent m_keptLow m_keptHigh m_keptMany = some r) : CtI l D cI cZ cN aK aV yX6_carried (k_W yX6_carried cX6_carried 3 (some .int)) { frames := 1, cells := 0, slots := 0, locals := 22 } [.ref qm, .int p1, .int p2] [(qm, .inr (6, [.ref qm_w, .ref qm_past, .int m_pastMany, .ref qm_images, .int m_filled, .ref qm_text, .int m_length, .ref qm_may, .ref qm_least, .ref qm_isCarried, .ref qm_list, .ref qm_nodes, .int m_listMany, .int m_went, .int m_cost, .int m_cause, .int m_looks, .int m_isSent, .int m_isOld, .ref qm_kept, .ref qm_keptLow, .ref qm_keptHigh, .int m_keptMany, .ref qm_keptNodes, .ref qm_numbers, .ref qm_sums, .ref qm_commands, .int m_commandMany, .ref qm_held])), (qm_keptLow, .inl (cI, 18, .inl m_keptLow)), (qm_keptHigh, .inl (cI, 18, .inl m_keptHigh))] r [(qm, .inr (6, [.ref qm_w, .ref qm_past, .int m_pastMany, .ref qm_images, .int m_filled, .ref qm_text, .int m_length, .ref qm_may, .ref qm_least, .ref qm_isCarried, .ref qm_list, .ref qm_nodes, .int m_listMany, .int m_went, .int m_cost, .int m_cause, .int m_looks, .int m_isSent, .int m_isOld, .ref qm_kept, .ref qm_keptLow, .ref qm_keptHigh, .int m_keptMany, .ref qm_keptNodes, .ref qm_numbers, .ref qm_sums, .ref qm_commands, .int m_commandMany, .ref qm_held])), (qm_keptLow, .inl (cI, 18, .inl m_keptLow)), (qm_keptHigh, .inl (cI, 18, .inl m_keptHigh))] := by
  refine k_startI (by decide) (Nat.le_of_ble_eq_true rfl) ?_
  intro p e s m below meth c A ls hx hb hr hml hown hts hlocks hT hZ hA hP hD hS hl
  have hK := hT.1
  have hu : ∀ w ∈ k_U, w.before ([.ref qm, .int p1, .int p2] : List Value).toArray s = true := fun w h => hts w (List.mem_cons_of_mem _ h)
  have hown : s.vm.findClass RX6 = some m.cls := hown
  have hl : lv_has ls 3 [(0, .ref qm), (1, .int p1), (2, .int p2)] := hl
  unfold f_X6_carried at h
  refine lv_iload_n hx hb dX6_carried_0 rfl (lv_at hl 1 rfl) ?_
  refine lv_if_lt (tgt := 13) hx hb dX6_carried_1 (by decide) (fun cc_1 => ?_) (fun cc_1 => ?_)
  · have h := (if_pos cc_1).symm.trans h
    refine lv_iconst (v := (-1 : Int32)) hx hb dX6_carried_13 (by decide) ?_
    have hq := Option.some.inj h
    clear h
    subst hq
    exact k_retI hx hb hr hlocks hP hD hS dX6_carried_14
  · have h := (if_neg cc_1).symm.trans h
    refine lv_iload_n hx hb dX6_carried_4 rfl (lv_at hl 2 rfl) ?_
    refine lv_iconst (v := (0 : Int32)) hx hb dX6_carried_5 (by decide) ?_
    refine lv_iconst (v := (1 : Int32)) hx hb dX6_carried_6 (by decide) ?_
    refine k_call0 (As := [.int p2, .int (0 : Int32), .int (1 : Int32)]) (rest := []) ⟨hx, hb, hml, hown, hts⟩ hT hZ hA hP hD hS (c_X6_isIn l D cI cZ cN aK aV p2 (0 : Int32) (1 : Int32) _ rfl) ⟨callB_of 3 hts (k_good u_812) rfl rfl rfl (hu _ u_51) (hu _ u_810) (by decide +kernel) ⟨Nat.le_of_ble_eq_true rfl, Nat.le_of_ble_eq_true rfl⟩, hu _ u_811⟩ rfl hl.1 rfl (Nat.le_of_ble_eq_true rfl) dX6_carried_7 (fun H locs hP hD hS => ?_)
    refine lv_if_ne (tgt := 15) hx hb dX6_carried_10 (by decide) (fun cc_2 => ?_) (fun cc_2 => ?_)
    · have h := (if_neg cc_2).symm.trans h
      refine lv_aload_n hx hb dX6_carried_15 rfl (lv_at hl 0 rfl) ?_
      refine va_get (D := D) (ci := 6) (v := .int m_isSent) (C := RX6) (T := TX6) (N := 29) hx hb hu k_iX6 hown hK hP 0 rfl rfl 17 (by decide) (hu _ u_735) (fun _ h9 => h9) rfl dX6_carried_16 ?_
      refine lv_if_ne (tgt := 25) hx hb dX6_carried_19 (by decide) (fun cc_3 => ?_) (fun cc_3 => ?_)
      · have h := (if_neg cc_3).symm.trans h
        refine lv_iload_n hx hb dX6_carried_25 rfl (lv_at hl 1 rfl) ?_
        refine lv_aload_n hx hb dX6_carried_26 rfl (lv_at hl 0 rfl) ?_
        refine va_get (D := D) (ci := 6) (v := .int m_keptMany) (C := RX6) (T := TX6) (N := 29) hx hb hu k_iX6 hown hK hP 0 rfl rfl 22 (by decide) (hu _ u_740) (fun _ h9 => h9) rfl dX6_carried_27 ?_
        refine lv_icmp_lt (tgt := 38) hx hb dX6_carried_30 (by decide) (fun cc_4 => ?_) (fun cc_4 => ?_)
        · have h := (if_pos cc_4).symm.trans h
          refine lv_iload_n hx hb dX6_carried_38 rfl (lv_at hl 2 rfl) ?_
          refine lv_if_ne (tgt := 51) hx hb dX6_carried_39 (by decide) (fun cc_5 => ?_) (fun cc_5 => ?_)
          · have h := (if_neg cc_5).symm.trans h
            refine lv_aload_n hx hb dX6_carried_51 rfl (lv_at hl 0 rfl) ?_
            refine va_get (D := D) (ci := 6) (v := .ref qm_keptHigh) (C := RX6) (T := TX6) (N := 29) hx hb hu k_iX6 hown hK hP 0 rfl rfl 21 (by decide) (hu _ u_739) (fun _ h9 => h9) rfl dX6_carried_52 ?_
            refine lv_iload_n hx hb dX6_carried_55 rfl (lv_at hl 1 rfl) ?_
            obtain ⟨hin_6, h⟩ := ob_if h
            have hin_6 := inb_in hin_6
            refine va_iald (D := D) hx hb hK hP 2 0 rfl rfl hin_6 dX6_carried_56 ?_
            have hq := Option.some.inj h
            clear h
            subst hq
            exact k_retI hx hb hr hlocks hP hD hS dX6_carried_57
          · have h := (if_pos cc_5).symm.trans h
            refine lv_aload_n hx hb dX6_carried_42 rfl (lv_at hl 0 rfl) ?_
            refine va_get (D := D) (ci := 6) (v := .ref qm_keptLow) (C := RX6) (T := TX6) (N := 29) hx hb hu k_iX6 hown hK hP 0 rfl rfl 20 (by decide) (hu _ u_738) (fun _ h9 => h9) rfl dX6_carried_43 ?_
            refine lv_iload_n hx hb dX6_carried_46 rfl (lv_at hl 1 rfl) ?_
            obtain ⟨hin_7, h⟩ := ob_if h
            have hin_7 := inb_in hin_7
            refine va_iald (D := D) hx hb hK hP 1 0 rfl rfl hin_7 dX6_carried_47 ?_
            refine lv_goto (tgt := 57) hx hb dX6_carried_48 (by decide) ?_
            have hq := Option.some.inj h
            clear h
            subst hq
            exact k_retI hx hb hr hlocks hP hD hS dX6_carried_57
        · have h := (if_neg cc_4).symm.trans h
          refine lv_bipush (v := (-9 : Int32)) hx hb dX6_carried_33 (by decide) ?_
          refine lv_goto (tgt := 57) hx hb dX6_carried_35 (by decide) ?_
          have hq := Option.some.inj h
          clear h
          subst hq
          exact k_retI hx hb hr hlocks hP hD hS dX6_carried_57
      · have h := (if_pos cc_3).symm.trans h
        refine lv_bipush (v := (-2 : Int32)) hx hb dX6_carried_22 (by decide) ?_
        have hq := Option.some.inj h
        clear h
        subst hq
        exact k_retI hx hb hr hlocks hP hD hS dX6_carried_24
    · have h := (if_pos cc_2).symm.trans h
      refine lv_iconst (v := (-1 : Int32)) hx hb dX6_carried_13 (by decide) ?_
      have hq := Option.some.inj h
      clear h
      subst hq
      exact k_retI hx hb hr hlocks hP hD hS dX6_carried_14
def f_X6_note (p1 : Int32) (p2 : Int32) (m_sums : (Nat → Int32)) : Option ((Nat → Int32)) :=
  if inb p1 8 = true then
  if p2 ≤ (m_sums (Int32.toNatClampNeg p1)) then
    some ((upd m_sums (Int32.toNatClampNeg p1) (m_sums (Int32.toNatClampNeg p1))))
  else
    some ((upd m_sums (Int32.toNatClampNeg p1) p2))
  else none
set_option maxHeartbeats 4000000 in
set_option maxRecDepth 100000 in
theorem c_X6_note (l : Launch) (D : va_G) (cI cZ cN : ClassId) (aK aV : Nat → Nat)  (qm : Nat) (qm_w : Nat) (qm_past : Nat) (qm_images : Nat) (qm_text : Nat) (qm_may : Nat) (qm_least : Nat) (qm_isCarried : Nat) (qm_list : Nat) (qm_nodes : Nat) (qm_kept : Nat) (qm_keptLow : Nat) (qm_keptHigh : Nat) (qm_keptNodes : Nat) (qm_numbers : Nat) (qm_sums : Nat) (qm_commands : Nat) (qm_held : Nat) (m_pastMany : Int32) (m_filled : Int32) (m_length : Int32) (m_listMany : Int32) (m_went : Int32) (m_cost : Int32) (m_cause : Int32) (m_looks : Int32) (m_isSent : Int32) (m_isOld : Int32) (m_keptMany : Int32) (m_sums : (Nat → Int32)) (m_commandMany : Int32) (p1 p2 : Int32) (z_m_sums : (Nat → Int32)) (h : f_X6_note p1 p2 m_sums = some z_m_sums) : CtV l D cI cZ cN aK aV yX6_note (k_W yX6_note cX6_note 3 none) { frames := 0, cells := 0, slots := 0, locals := 0 } [.ref qm, .int p1, .int p2] [(qm, .inr (6, [.ref qm_w, .ref qm_past, .int m_pastMany, .ref qm_images, .int m_filled, .ref qm_text, .int m_length, .ref qm_may, .ref qm_least, .ref qm_isCarried, .ref qm_list, .ref qm_nodes, .int m_listMany, .int m_went, .int m_cost, .int m_cause, .int m_looks, .int m_isSent, .int m_isOld, .ref qm_kept, .ref qm_keptLow, .ref qm_keptHigh, .int m_keptMany, .ref qm_keptNodes, .ref qm_numbers, .ref qm_sums, .ref qm_commands, .int m_commandMany, .ref qm_held])), (qm_sums, .inl (cI, 8, .inl m_sums))] [(qm, .inr (6, [.ref qm_w, .ref qm_past, .int m_pastMany, .ref qm_images, .int m_filled, .ref qm_text, .int m_length, .ref qm_may, .ref qm_least, .ref qm_isCarried, .ref qm_list, .ref qm_nodes, .int m_listMany, .int m_went, .int m_cost, .int m_cause, .int m_looks, .int m_isSent, .int m_isOld, .ref qm_kept, .ref qm_keptLow, .ref qm_keptHigh, .int m_keptMany, .ref qm_keptNodes, .ref qm_numbers, .ref qm_sums, .ref qm_commands, .int m_commandMany, .ref qm_held])), (qm_sums, .inl (cI, 8, .inl z_m_sums))] := by
  refine k_startV (by decide) (Nat.le_of_ble_eq_true rfl) ?_
  intro p e s m below meth c A ls hx hb hr hml hown hts hlocks hT hZ hA hP hD hS hl
  have hK := hT.1
  have hu : ∀ w ∈ k_U, w.before ([.ref qm, .int p1, .int p2] : List Value).toArray s = true := fun w h => hts w (List.mem_cons_of_mem _ h)
  have hown : s.vm.findClass RX6 = some m.cls := hown
  have hl : lv_has ls 3 [(0, .ref qm), (1, .int p1), (2, .int p2)] := hl
  unfold f_X6_note at h
  refine lv_aload_n hx hb dX6_note_0 rfl (lv_at hl 0 rfl) ?_
  refine va_get (D := D) (ci := 6) (v := .ref qm_sums) (C := RX6) (T := TX6) (N := 29) hx hb hu k_iX6 hown hK hP 0 rfl rfl 25 (by decide) (hu _ u_743) (fun _ h9 => h9) rfl dX6_note_1 ?_
  refine lv_iload_n hx hb dX6_note_4 rfl (lv_at hl 1 rfl) ?_
  refine lv_iload_n hx hb dX6_note_5 rfl (lv_at hl 2 rfl) ?_
  refine lv_aload_n hx hb dX6_note_6 rfl (lv_at hl 0 rfl) ?_
  refine va_get (D := D) (ci := 6) (v := .ref qm_sums) (C := RX6) (T := TX6) (N := 29) hx hb hu k_iX6 hown hK hP 0 rfl rfl 25 (by decide) (hu _ u_743) (fun _ h9 => h9) rfl dX6_note_7 ?_
  refine lv_iload_n hx hb dX6_note_10 rfl (lv_at hl 1 rfl) ?_
  obtain ⟨hin_1, h⟩ := ob_if h
  have hin_1 := inb_in hin_1
  refine va_iald (D := D) hx hb hK hP 1 0 rfl rfl hin_1 dX6_note_11 ?_
  refine lv_icmp_le (tgt := 19) hx hb dX6_note_12 (by decide) (fun cc_2 => ?_) (fun cc_2 => ?_)
  · have h := (if_pos cc_2).symm.trans h
    refine lv_aload_n hx hb dX6_note_19 rfl (lv_at hl 0 rfl) ?_
    refine va_get (D := D) (ci := 6) (v := .ref qm_sums) (C := RX6) (T := TX6) (N := 29) hx hb hu k_iX6 hown hK hP 0 rfl rfl 25 (by decide) (hu _ u_743) (fun _ h9 => h9) rfl dX6_note_20 ?_
    refine lv_iload_n hx hb dX6_note_23 rfl (lv_at hl 1 rfl) ?_
    refine va_iald (D := D) hx hb hK hP 1 0 rfl rfl hin_1 dX6_note_24 ?_
    refine va_iast (D := D) hx hb hK hP hD hS 1 0 rfl rfl hin_1 dX6_note_25 (fun H locs hP hD hS => ?_)
    have hP : va_P D vwCl [(qm, .inr (6, [.ref qm_w, .ref qm_past, .int m_pastMany, .ref qm_images, .int m_filled, .ref qm_text, .int m_length, .ref qm_may, .ref qm_least, .ref qm_isCarried, .ref qm_list, .ref qm_nodes, .int m_listMany, .int m_went, .int m_cost, .int m_cause, .int m_looks, .int m_isSent, .int m_isOld, .ref qm_kept, .ref qm_keptLow, .ref qm_keptHigh, .int m_keptMany, .ref qm_keptNodes, .ref qm_numbers, .ref qm_sums, .ref qm_commands, .int m_commandMany, .ref qm_held])), (qm_sums, .inl (cI, 8, .inl (upd m_sums (Int32.toNatClampNeg p1) (m_sums (Int32.toNatClampNeg p1)))))] H := hP
    have hD : va_D A [(qm, .inr (6, [.ref qm_w, .ref qm_past, .int m_pastMany, .ref qm_images, .int m_filled, .ref qm_text, .int m_length, .ref qm_may, .ref qm_least, .ref qm_isCarried, .ref qm_list, .ref qm_nodes, .int m_listMany, .int m_went, .int m_cost, .int m_cause, .int m_looks, .int m_isSent, .int m_isOld, .ref qm_kept, .ref qm_keptLow, .ref qm_keptHigh, .int m_keptMany, .ref qm_keptNodes, .ref qm_numbers, .ref qm_sums, .ref qm_commands, .int m_commandMany, .ref qm_held])), (qm_sums, .inl (cI, 8, .inl (upd m_sums (Int32.toNatClampNeg p1) (m_sums (Int32.toNatClampNeg p1)))))] := hD
    have hq := Option.some.inj h
    clear h
    subst hq
    exact k_retV hx hb hr hlocks hP hD hS dX6_note_26
  · have h := (if_neg cc_2).symm.trans h
    refine lv_iload_n hx hb dX6_note_15 rfl (lv_at hl 2 rfl) ?_
    refine lv_goto (tgt := 25) hx hb dX6_note_16 (by decide) ?_
    refine va_iast (D := D) hx hb hK hP hD hS 1 0 rfl rfl hin_1 dX6_note_25 (fun H locs hP hD hS => ?_)
    have hP : va_P D vwCl [(qm, .inr (6, [.ref qm_w, .ref qm_past, .int m_pastMany, .ref qm_images, .int m_filled, .ref qm_text, .int m_length, .ref qm_may, .ref qm_least, .ref qm_isCarried, .ref qm_list, .ref qm_nodes, .int m_listMany, .int m_went, .int m_cost, .int m_cause, .int m_looks, .int m_isSent, .int m_isOld, .ref qm_kept, .ref qm_keptLow, .ref qm_keptHigh, .int m_keptMany, .ref qm_keptNodes, .ref qm_numbers, .ref qm_sums, .ref qm_commands, .int m_commandMany, .ref qm_held])), (qm_sums, .inl (cI, 8, .inl (upd m_sums (Int32.toNatClampNeg p1) p2)))] H := hP
    have hD : va_D A [(qm, .inr (6, [.ref qm_w, .ref qm_past, .int m_pastMany, .ref qm_images, .int m_filled, .ref qm_text, .int m_length, .ref qm_may, .ref qm_least, .ref qm_isCarried, .ref qm_list, .ref qm_nodes, .int m_listMany, .int m_went, .int m_cost, .int m_cause, .int m_looks, .int m_isSent, .int m_isOld, .ref qm_kept, .ref qm_keptLow, .ref qm_keptHigh, .int m_keptMany, .ref qm_keptNodes, .ref qm_numbers, .ref qm_sums, .ref qm_commands, .int m_commandMany, .ref qm_held])), (qm_sums, .inl (cI, 8, .inl (upd m_sums (Int32.toNatClampNeg p1) p2)))] := hD
    have hq := Option.some.inj h
    clear h
    subst hq
    exact k_retV hx hb hr hlocks hP hD hS dX6_note_26
def f_X6_layPair_b90  (x5 : Int32) (s0 : Int32) (s1 : Int32) (s2 : Int32) (m_w : (Nat → Int32)) (m_may : (Nat → Int32)) (m_least : (Nat → Int32)) (m_isCarried : (Nat → Int32)) (m_list : (Nat → Int32)) (m_nodes : (Nat → Int32)) (m_listMany : Int32) (m_went : Int32) (m_cost : Int32) (m_cause : Int32) (m_looks : Int32) (m_sums : (Nat → Int32)) : Option ((Nat → Int32) × (Nat → Int32) × (Nat → Int32) × (Nat → Int32) × (Nat → Int32) × Int32 × Int32 × Int32 × Int32 × Int32 × (Nat → Int32)) :=
  if inb s2 8 = true then
  (f_X6_note (5 : Int32) m_listMany (upd m_sums (Int32.toNatClampNeg s2) (s1 + s0))).bind fun o_22 =>
  (f_X6_note (6 : Int32) m_went o_22).bind fun o_24 =>
  if m_cause = (0 : Int32) then
    if m_cost ≤ x5 then
      some (m_may, m_least, m_isCarried, m_list, m_nodes, m_listMany, m_went, m_cost, m_cause, m_looks, (upd (upd (upd (upd o_24 (Int32.toNatClampNeg (1 : Int32)) ((o_24 (Int32.toNatClampNeg (1 : Int32))) + (1 : Int32))) (Int32.toNatClampNeg (3 : Int32)) (((upd o_24 (Int32.toNatClampNeg (1 : Int32)) ((o_24 (Int32.toNatClampNeg (1 : Int32))) + (1 : Int32))) (Int32.toNatClampNeg (3 : Int32))) + m_cost)) (Int32.toNatClampNeg (4 : Int32)) (((upd (upd o_24 (Int32.toNatClampNeg (1 : Int32)) ((o_24 (Int32.toNatClampNeg (1 : Int32))) + (1 : Int32))) (Int32.toNatClampNeg (3 : Int32)) (((upd o_24 (Int32.toNatClampNeg (1 : Int32)) ((o_24 (Int32.toNatClampNeg (1 : Int32))) + (1 : Int32))) (Int32.toNatClampNeg (3 : Int32))) + m_cost)) (Int32.toNatClampNeg (4 : Int32))) + x5)) (Int32.toNatClampNeg (7 : Int32)) (((upd (upd (upd o_24 (Int32.toNatClampNeg (1 : Int32)) ((o_24 (Int32.toNatClampNeg (1 : Int32))) + (1 : Int32))) (Int32.toNatClampNeg (3 : Int32)) (((upd o_24 (Int32.toNatClampNeg (1 : Int32)) ((o_24 (Int32.toNatClampNeg (1 : Int32))) + (1 : Int32))) (Int32.toNatClampNeg (3 : Int32))) + m_cost)) (Int32.toNatClampNeg (4 : Int32)) (((upd (upd o_24 (Int32.toNatClampNeg (1 : Int32)) ((o_24 (Int32.toNatClampNeg (1 : Int32))) + (1 : Int32))) (Int32.toNatClampNeg (3 : Int32)) (((upd o_24 (Int32.toNatClampNeg (1 : Int32)) ((o_24 (Int32.toNatClampNeg (1 : Int32))) + (1 : Int32))) (Int32.toNatClampNeg (3 : Int32))) + m_cost)) (Int32.toNatClampNeg (4 : Int32))) + x5)) (Int32.toNatClampNeg (7 : Int32))) + (0 : Int32))))
    else
      some (m_may, m_least, m_isCarried, m_list, m_nodes, m_listMany, m_went, m_cost, m_cause, m_looks, (upd (upd (upd (upd o_24 (Int32.toNatClampNeg (1 : Int32)) ((o_24 (Int32.toNatClampNeg (1 : Int32))) + (1 : Int32))) (Int32.toNatClampNeg (3 : Int32)) (((upd o_24 (Int32.toNatClampNeg (1 : Int32)) ((o_24 (Int32.toNatClampNeg (1 : Int32))) + (1 : Int32))) (Int32.toNatClampNeg (3 : Int32))) + m_cost)) (Int32.toNatClampNeg (4 : Int32)) (((upd (upd o_24 (Int32.toNatClampNeg (1 : Int32)) ((o_24 (Int32.toNatClampNeg (1 : Int32))) + (1 : Int32))) (Int32.toNatClampNeg (3 : Int32)) (((upd o_24 (Int32.toNatClampNeg (1 : Int32)) ((o_24 (Int32.toNatClampNeg (1 : Int32))) + (1 : Int32))) (Int32.toNatClampNeg (3 : Int32))) + m_cost)) (Int32.toNatClampNeg (4 : Int32))) + x5)) (Int32.toNatClampNeg (7 : Int32)) (((upd (upd (upd o_24 (Int32.toNatClampNeg (1 : Int32)) ((o_24 (Int32.toNatClampNeg (1 : Int32))) + (1 : Int32))) (Int32.toNatClampNeg (3 : Int32)) (((upd o_24 (Int32.toNatClampNeg (1 : Int32)) ((o_24 (Int32.toNatClampNeg (1 : Int32))) + (1 : Int32))) (Int32.toNatClampNeg (3 : Int32))) + m_cost)) (Int32.toNatClampNeg (4 : Int32)) (((upd (upd o_24 (Int32.toNatClampNeg (1 : Int32)) ((o_24 (Int32.toNatClampNeg (1 : Int32))) + (1 : Int32))) (Int32.toNatClampNeg (3 : Int32)) (((upd o_24 (Int32.toNatClampNeg (1 : Int32)) ((o_24 (Int32.toNatClampNeg (1 : Int32))) + (1 : Int32))) (Int32.toNatClampNeg (3 : Int32))) + m_cost)) (Int32.toNatClampNeg (4 : Int32))) + x5)) (Int32.toNatClampNeg (7 : Int32))) + (1 : Int32))))
  else
    some (m_may, m_least, m_isCarried, m_list, m_nodes, m_listMany, m_went, m_cost, m_cause, m_looks, o_24)
  else none
def f_X6_layPair_b62  (x5 : Int32) (s0 : Int32) (s1 : Int32) (s2 : Int32) (m_w : (Nat → Int32)) (m_may : (Nat → Int32)) (m_least : (Nat → Int32)) (m_isCarried : (Nat → Int32)) (m_list : (Nat → Int32)) (m_nodes : (Nat → Int32)) (m_listMany : Int32) (m_went : Int32) (m_cost : Int32) (m_cause : Int32) (m_looks : Int32) (m_sums : (Nat → Int32)) : Option ((Nat → Int32) × (Nat → Int32) × (Nat → Int32) × (Nat → Int32) × (Nat → Int32) × Int32 × Int32 × Int32 × Int32 × Int32 × (Nat → Int32)) :=
  if inb s2 8 = true then
  if x5 = (-9 : Int32) then
    f_X6_layPair_b90  x5 (0 : Int32) ((upd m_sums (Int32.toNatClampNeg s2) (s1 + s0)) (Int32.toNatClampNeg (2 : Int32))) (2 : Int32) m_w m_may m_least m_isCarried m_list m_nodes m_listMany m_went m_cost m_cause m_looks (upd m_sums (Int32.toNatClampNeg s2) (s1 + s0))
  else
    if m_cause = (0 : Int32) then
      f_X6_layPair_b90  x5 (0 : Int32) ((upd m_sums (Int32.toNatClampNeg s2) (s1 + s0)) (Int32.toNatClampNeg (2 : Int32))) (2 : Int32) m_w m_may m_least m_isCarried m_list m_nodes m_listMany m_went m_cost m_cause m_looks (upd m_sums (Int32.toNatClampNeg s2) (s1 + s0))
    else
      f_X6_layPair_b90  x5 (1 : Int32) ((upd m_sums (Int32.toNatClampNeg s2) (s1 + s0)) (Int32.toNatClampNeg (2 : Int32))) (2 : Int32) m_w m_may m_least m_isCarried m_list m_nodes m_listMany m_went m_cost m_cause m_looks (upd m_sums (Int32.toNatClampNeg s2) (s1 + s0))
  else none
def f_X6_layPair_b32  (x1 : Int32) (x2 : Int32) (x3 : Int32) (x4 : Int32) (s0 : Int32) (m_w : (Nat → Int32)) (m_may : (Nat → Int32)) (m_least : (Nat → Int32)) (m_isCarried : (Nat → Int32)) (m_list : (Nat → Int32)) (m_nodes : (Nat → Int32)) (m_listMany : Int32) (m_went : Int32) (m_cost : Int32) (m_cause : Int32) (m_looks : Int32) (m_sums : (Nat → Int32)) : Option ((Nat → Int32) × (Nat → Int32) × (Nat → Int32) × (Nat → Int32) × (Nat → Int32) × Int32 × Int32 × Int32 × Int32 × Int32 × (Nat → Int32)) :=
  (f_X6_runLetter x1 x2 x3 x4 m_w m_may m_least m_isCarried m_list m_nodes m_listMany m_went m_cost m_cause m_looks).bind fun ⟨o_6, o_7, o_8, o_9, o_10, o_11, o_12, o_13, o_14, o_15⟩ =>
  if s0 = (-9 : Int32) then
    f_X6_layPair_b62  s0 (0 : Int32) (m_sums (Int32.toNatClampNeg (0 : Int32))) (0 : Int32) m_w o_6 o_7 o_8 o_9 o_10 o_11 o_12 o_13 o_14 o_15 m_sums
  else
    f_X6_layPair_b62  s0 (1 : Int32) (m_sums (Int32.toNatClampNeg (0 : Int32))) (0 : Int32) m_w o_6 o_7 o_8 o_9 o_10 o_11 o_12 o_13 o_14 o_15 m_sums
def f_X6_layPair (p1 : Int32) (p2 : Int32) (p3 : Int32) (p4 : Int32) (m_w : (Nat → Int32)) (m_may : (Nat → Int32)) (m_least : (Nat → Int32)) (m_isCarried : (Nat → Int32)) (m_list : (Nat → Int32)) (m_nodes : (Nat → Int32)) (m_listMany : Int32) (m_went : Int32) (m_cost : Int32) (m_cause : Int32) (m_looks : Int32) (m_sums : (Nat → Int32)) : Option ((Nat → Int32) × (Nat → Int32) × (Nat → Int32) × (Nat → Int32) × (Nat → Int32) × Int32 × Int32 × Int32 × Int32 × Int32 × (Nat → Int32)) :=
  (f_X6_layTrue p2 (-9 : Int32) m_w m_may m_least).bind fun ⟨o_1, o_2⟩ =>
  if inb p1 9 = true then
  if (o_2 (Int32.toNatClampNeg p1)) = (1000000 : Int32) then
    f_X6_layPair_b32  p1 p2 p3 p4 (-9 : Int32) m_w o_1 o_2 m_isCarried m_list m_nodes m_listMany m_went m_cost m_cause m_looks m_sums
  else
    f_X6_layPair_b32  p1 p2 p3 p4 ((o_2 (Int32.toNatClampNeg p1)) / (16 : Int32)) m_w o_1 o_2 m_isCarried m_list m_nodes m_listMany m_went m_cost m_cause m_looks m_sums
  else none
set_option maxHeartbeats 4000000 in
set_option maxRecDepth 100000 in
theorem c_X6_layPair (l : Launch) (D : va_G) (cI cZ cN : ClassId) (aK aV : Nat → Nat)  (qm : Nat) (qm_w : Nat) (qm_past : Nat) (qm_images : Nat) (qm_text : Nat) (qm_may : Nat) (qm_least : Nat) (qm_isCarried : Nat) (qm_list : Nat) (qm_nodes : Nat) (qm_kept : Nat) (qm_keptLow : Nat) (qm_keptHigh : Nat) (qm_keptNodes : Nat) (qm_numbers : Nat) (qm_sums : Nat) (qm_commands : Nat) (qm_held : Nat) (m_w : (Nat → Int32)) (m_pastMany : Int32) (m_filled : Int32) (m_length : Int32) (m_may : (Nat → Int32)) (m_least : (Nat → Int32)) (m_isCarried : (Nat → Int32)) (m_list : (Nat → Int32)) (m_nodes : (Nat → Int32)) (m_listMany : Int32) (m_went : Int32) (m_cost : Int32) (m_cause : Int32) (m_looks : Int32) (m_isSent : Int32) (m_isOld : Int32) (m_keptMany : Int32) (m_sums : (Nat → Int32)) (m_commandMany : Int32) (p1 p2 p3 p4 : Int32) (z_m_may : (Nat → Int32)) (z_m_least : (Nat → Int32)) (z_m_isCarried : (Nat → Int32)) (z_m_list : (Nat → Int32)) (z_m_nodes : (Nat → Int32)) (z_m_listMany : Int32) (z_m_went : Int32) (z_m_cost : Int32) (z_m_cause : Int32) (z_m_looks : Int32) (z_m_sums : (Nat → Int32)) (h : f_X6_layPair p1 p2 p3 p4 m_w m_may m_least m_isCarried m_list m_nodes m_listMany m_went m_cost m_cause m_looks m_sums = some (z_m_may, z_m_least, z_m_isCarried, z_m_list, z_m_nodes, z_m_listMany, z_m_went, z_m_cost, z_m_cause, z_m_looks, z_m_sums)) : CtV l D cI cZ cN aK aV yX6_layPair (k_W yX6_layPair cX6_layPair 6 none) { frames := 5, cells := 0, slots := 0, locals := 119 } [.ref qm, .int p1, .int p2, .int p3, .int p4] [(qm, .inr (6, [.ref qm_w, .ref qm_past, .int m_pastMany, .ref qm_images, .int m_filled, .ref qm_text, .int m_length, .ref qm_may, .ref qm_least, .ref qm_isCarried, .ref qm_list, .ref qm_nodes, .int m_listMany, .int m_went, .int m_cost, .int m_cause, .int m_looks, .int m_isSent, .int m_isOld, .ref qm_kept, .ref qm_keptLow, .ref qm_keptHigh, .int m_keptMany, .ref qm_keptNodes, .ref qm_numbers, .ref qm_sums, .ref qm_commands, .int m_commandMany, .ref qm_held])), (qm_w, .inl (cI, 93, .inl m_w)), (qm_may, .inl (cZ, 18, .inl m_may)), (qm_least, .inl (cI, 9, .inl m_least)), (qm_isCarried, .inl (cZ, 18, .inl m_isCarried)), (qm_list, .inl (cI, 18, .inl m_list)), (qm_nodes, .inl (cI, 41, .inl m_nodes)), (qm_sums, .inl (cI, 8, .inl m_sums))] [(qm, .inr (6, [.ref qm_w, .ref qm_past, .int m_pastMany, .ref qm_images, .int m_filled, .ref qm_text, .int m_length, .ref qm_may, .ref qm_least, .ref qm_isCarried, .ref qm_list, .ref qm_nodes, .int z_m_listMany, .int z_m_went, .int z_m_cost, .int z_m_cause, .int z_m_looks, .int m_isSent, .int m_isOld, .ref qm_kept, .ref qm_keptLow, .ref qm_keptHigh, .int m_keptMany, .ref qm_keptNodes, .ref qm_numbers, .ref qm_sums, .ref qm_commands, .int m_commandMany, .ref qm_held])), (qm_w, .inl (cI, 93, .inl m_w)), (qm_may, .inl (cZ, 18, .inl z_m_may)), (qm_least, .inl (cI, 9, .inl z_m_least)), (qm_isCarried, .inl (cZ, 18, .inl z_m_isCarried)), (qm_list, .inl (cI, 18, .inl z_m_list)), (qm_nodes, .inl (cI, 41, .inl z_m_nodes)), (qm_sums, .inl (cI, 8, .inl z_m_sums))] := by
  refine k_startV (by decide) (Nat.le_of_ble_eq_true rfl) ?_
  intro p e s m below meth c A ls hx hb hr hml hown hts hlocks hT hZ hA hP hD hS hl
  have hK := hT.1
  have hu : ∀ w ∈ k_U, w.before ([.ref qm, .int p1, .int p2, .int p3, .int p4] : List Value).toArray s = true := fun w h => hts w (List.mem_cons_of_mem _ h)
  have hown : s.vm.findClass RX6 = some m.cls := hown
  have hl : lv_has ls 6 [(0, .ref qm), (1, .int p1), (2, .int p2), (3, .int p3), (4, .int p4)] := hl
  unfold f_X6_layPair at h
  have w32 : ∀  (x1 : Int32) (x2 : Int32) (x3 : Int32) (x4 : Int32) (s0 : Int32) (m_w : (Nat → Int32)) (m_may : (Nat → Int32)) (m_least : (Nat → Int32)) (m_isCarried : (Nat → Int32)) (m_list : (Nat → Int32)) (m_nodes : (Nat → Int32)) (m_listMany : Int32) (m_went : Int32) (m_cost : Int32) (m_cause : Int32) (m_looks : Int32) (m_sums : (Nat → Int32)) (H : Heap) (locs : List Loc) (ls : Array Slot), va_P D vwCl [(qm, .inr (6, [.ref qm_w, .ref qm_past, .int m_pastMany, .ref qm_images, .int m_filled, .ref qm_text, .int m_length, .ref qm_may, .ref qm_least, .ref qm_isCarried, .ref qm_list, .ref qm_nodes, .int m_listMany, .int m_went, .int m_cost, .int m_cause, .int m_looks, .int m_isSent, .int m_isOld, .ref qm_kept, .ref qm_keptLow, .ref qm_keptHigh, .int m_keptMany, .ref qm_keptNodes, .ref qm_numbers, .ref qm_sums, .ref qm_commands, .int m_commandMany, .ref qm_held])), (qm_w, .inl (cI, 93, .inl m_w)), (qm_may, .inl (cZ, 18, .inl m_may)), (qm_least, .inl (cI, 9, .inl m_least)), (qm_isCarried, .inl (cZ, 18, .inl m_isCarried)), (qm_list, .inl (cI, 18, .inl m_list)), (qm_nodes, .inl (cI, 41, .inl m_nodes)), (qm_sums, .inl (cI, 8, .inl m_sums))] H → va_D A [(qm, .inr (6, [.ref qm_w, .ref qm_past, .int m_pastMany, .ref qm_images, .int m_filled, .ref qm_text, .int m_length, .ref qm_may, .ref qm_least, .ref qm_isCarried, .ref qm_list, .ref qm_nodes, .int m_listMany, .int m_went, .int m_cost, .int m_cause, .int m_looks, .int m_isSent, .int m_isOld, .ref qm_kept, .ref qm_keptLow, .ref qm_keptHigh, .int m_keptMany, .ref qm_keptNodes, .ref qm_numbers, .ref qm_sums, .ref qm_commands, .int m_commandMany, .ref qm_held])), (qm_w, .inl (cI, 93, .inl m_w)), (qm_may, .inl (cZ, 18, .inl m_may)), (qm_least, .inl (cI, 9, .inl m_least)), (qm_isCarried, .inl (cZ, 18, .inl m_isCarried)), (qm_list, .inl (cI, 18, .inl m_list)), (qm_nodes, .inl (cI, 41, .inl m_nodes)), (qm_sums, .inl (cI, 8, .inl m_sums))] → va_S A s.heap H locs → lv_has ls 6 [(0, .ref qm), (1, .int x1), (2, .int x2), (3, .int x3), (4, .int x4)] → f_X6_layPair_b32 x1 x2 x3 x4 s0 m_w m_may m_least m_isCarried m_list m_nodes m_listMany m_went m_cost m_cause m_looks m_sums = some (z_m_may, z_m_least, z_m_isCarried, z_m_list, z_m_nodes, z_m_listMany, z_m_went, z_m_cost, z_m_cause, z_m_looks, z_m_sums) → W p l e { frames := 5, cells := 0, slots := 0, locals := 119 } s m ([.ref qm, .int p1, .int p2, .int p3, .int p4] : List Value).toArray below meth c H locs 0 0 (MQ below (k_QV D [(qm, .inr (6, [.ref qm_w, .ref qm_past, .int m_pastMany, .ref qm_images, .int m_filled, .ref qm_text, .int m_length, .ref qm_may, .ref qm_least, .ref qm_isCarried, .ref qm_list, .ref qm_nodes, .int z_m_listMany, .int z_m_went, .int z_m_cost, .int z_m_cause, .int z_m_looks, .int m_isSent, .int m_isOld, .ref qm_kept, .ref qm_keptLow, .ref qm_keptHigh, .int m_keptMany, .ref qm_keptNodes, .ref qm_numbers, .ref qm_sums, .ref qm_commands, .int m_commandMany, .ref qm_held])), (qm_w, .inl (cI, 93, .inl m_w)), (qm_may, .inl (cZ, 18, .inl z_m_may)), (qm_least, .inl (cI, 9, .inl z_m_least)), (qm_isCarried, .inl (cZ, 18, .inl z_m_isCarried)), (qm_list, .inl (cI, 18, .inl z_m_list)), (qm_nodes, .inl (cI, 41, .inl z_m_nodes)), (qm_sums, .inl (cI, 8, .inl z_m_sums))] A) ([.ref qm, .int p1, .int p2, .int p3, .int p4] : List Value).toArray s 0 0 A) (F0 m 32 ls [.int s0]) := by
    intro x1 x2 x3 x4 s0 m_w m_may m_least m_isCarried m_list m_nodes m_listMany m_went m_cost m_cause m_looks m_sums H locs ls hP hD hS hl h
    unfold f_X6_layPair_b32 at h
    have w62 : ∀  (x5 : Int32) (s0 : Int32) (s1 : Int32) (s2 : Int32) (m_w : (Nat → Int32)) (m_may : (Nat → Int32)) (m_least : (Nat → Int32)) (m_isCarried : (Nat → Int32)) (m_list : (Nat → Int32)) (m_nodes : (Nat → Int32)) (m_listMany : Int32) (m_went : Int32) (m_cost : Int32) (m_cause : Int32) (m_looks : Int32) (m_sums : (Nat → Int32)) (H : Heap) (locs : List Loc) (ls : Array Slot), va_P D vwCl [(qm, .inr (6, [.ref qm_w, .ref qm_past, .int m_pastMany, .ref qm_images, .int m_filled, .ref qm_text, .int m_length, .ref qm_may, .ref qm_least, .ref qm_isCarried, .ref qm_list, .ref qm_nodes, .int m_listMany, .int m_went, .int m_cost, .int m_cause, .int m_looks, .int m_isSent, .int m_isOld, .ref qm_kept, .ref qm_keptLow, .ref qm_keptHigh, .int m_keptMany, .ref qm_keptNodes, .ref qm_numbers, .ref qm_sums, .ref qm_commands, .int m_commandMany, .ref qm_held])), (qm_w, .inl (cI, 93, .inl m_w)), (qm_may, .inl (cZ, 18, .inl m_may)), (qm_least, .inl (cI, 9, .inl m_least)), (qm_isCarried, .inl (cZ, 18, .inl m_isCarried)), (qm_list, .inl (cI, 18, .inl m_list)), (qm_nodes, .inl (cI, 41, .inl m_nodes)), (qm_sums, .inl (cI, 8, .inl m_sums))] H → va_D A [(qm, .inr (6, [.ref qm_w, .ref qm_past, .int m_pastMany, .ref qm_images, .int m_filled, .ref qm_text, .int m_length, .ref qm_may, .ref qm_least, .ref qm_isCarried, .ref qm_list, .ref qm_nodes, .int m_listMany, .int m_went, .int m_cost, .int m_cause, .int m_looks, .int m_isSent, .int m_isOld, .ref qm_kept, .ref qm_keptLow, .ref qm_keptHigh, .int m_keptMany, .ref qm_keptNodes, .ref qm_numbers, .ref qm_sums, .ref qm_commands, .int m_commandMany, .ref qm_held])), (qm_w, .inl (cI, 93, .inl m_w)), (qm_may, .inl (cZ, 18, .inl m_may)), (qm_least, .inl (cI, 9, .inl m_least)), (qm_isCarried, .inl (cZ, 18, .inl m_isCarried)), (qm_list, .inl (cI, 18, .inl m_list)), (qm_nodes, .inl (cI, 41, .inl m_nodes)), (qm_sums, .inl (cI, 8, .inl m_sums))] → va_S A s.heap H locs → lv_has ls 6 [(0, .ref qm), (5, .int x5)] → f_X6_layPair_b62 x5 s0 s1 s2 m_w m_may m_least m_isCarried m_list m_nodes m_listMany m_went m_cost m_cause m_looks m_sums = some (z_m_may, z_m_least, z_m_isCarried, z_m_list, z_m_nodes, z_m_listMany, z_m_went, z_m_cost, z_m_cause, z_m_looks, z_m_sums) → W p l e { frames := 5, cells := 0, slots := 0, locals := 119 } s m ([.ref qm, .int p1, .int p2, .int p3, .int p4] : List Value).toArray below meth c H locs 0 0 (MQ below (k_QV D [(qm, .inr (6, [.ref qm_w, .ref qm_past, .int m_pastMany, .ref qm_images, .int m_filled, .ref qm_text, .int m_length, .ref qm_may, .ref qm_least, .ref qm_isCarried, .ref qm_list, .ref qm_nodes, .int z_m_listMany, .int z_m_went, .int z_m_cost, .int z_m_cause, .int z_m_looks, .int m_isSent, .int m_isOld, .ref qm_kept, .ref qm_keptLow, .ref qm_keptHigh, .int m_keptMany, .ref qm_keptNodes, .ref qm_numbers, .ref qm_sums, .ref qm_commands, .int m_commandMany, .ref qm_held])), (qm_w, .inl (cI, 93, .inl m_w)), (qm_may, .inl (cZ, 18, .inl z_m_may)), (qm_least, .inl (cI, 9, .inl z_m_least)), (qm_isCarried, .inl (cZ, 18, .inl z_m_isCarried)), (qm_list, .inl (cI, 18, .inl z_m_list)), (qm_nodes, .inl (cI, 41, .inl z_m_nodes)), (qm_sums, .inl (cI, 8, .inl z_m_sums))] A) ([.ref qm, .int p1, .int p2, .int p3, .int p4] : List Value).toArray s 0 0 A) (F0 m 62 ls [.int s0, .int s1, .int s2, .ref qm_sums]) := by
      intro x5 s0 s1 s2 m_w m_may m_least m_isCarried m_list m_nodes m_listMany m_went m_cost m_cause m_looks m_sums H locs ls hP hD hS hl h
      unfold f_X6_layPair_b62 at h
      have w90 : ∀  (x5 : Int32) (s0 : Int32) (s1 : Int32) (s2 : Int32) (m_w : (Nat → Int32)) (m_may : (Nat → Int32)) (m_least : (Nat → Int32)) (m_isCarried : (Nat → Int32)) (m_list : (Nat → Int32)) (m_nodes : (Nat → Int32)) (m_listMany : Int32) (m_went : Int32) (m_cost : Int32) (m_cause : Int32) (m_looks : Int32) (m_sums : (Nat → Int32)) (H : Heap) (locs : List Loc) (ls : Array Slot), va_P D vwCl [(qm, .inr (6, [.ref qm_w, .ref qm_past, .int m_pastMany, .ref qm_images, .int m_filled, .ref qm_text, .int m_length, .ref qm_may, .ref qm_least, .ref qm_isCarried, .ref qm_list, .ref qm_nodes, .int m_listMany, .int m_went, .int m_cost, .int m_cause, .int m_looks, .int m_isSent, .int m_isOld, .ref qm_kept, .ref qm_keptLow, .ref qm_keptHigh, .int m_keptMany, .ref qm_keptNodes, .ref qm_numbers, .ref qm_sums, .ref qm_commands, .int m_commandMany, .ref qm_held])), (qm_w, .inl (cI, 93, .inl m_w)), (qm_may, .inl (cZ, 18, .inl m_may)), (qm_least, .inl (cI, 9, .inl m_least)), (qm_isCarried, .inl (cZ, 18, .inl m_isCarried)), (qm_list, .inl (cI, 18, .inl m_list)), (qm_nodes, .inl (cI, 41, .inl m_nodes)), (qm_sums, .inl (cI, 8, .inl m_sums))] H → va_D A [(qm, .inr (6, [.ref qm_w, .ref qm_past, .int m_pastMany, .ref qm_images, .int m_filled, .ref qm_text, .int m_length, .ref qm_may, .ref qm_least, .ref qm_isCarried, .ref qm_list, .ref qm_nodes, .int m_listMany, .int m_went, .int m_cost, .int m_cause, .int m_looks, .int m_isSent, .int m_isOld, .ref qm_kept, .ref qm_keptLow, .ref qm_keptHigh, .int m_keptMany, .ref qm_keptNodes, .ref qm_numbers, .ref qm_sums, .ref qm_commands, .int m_commandMany, .ref qm_held])), (qm_w, .inl (cI, 93, .inl m_w)), (qm_may, .inl (cZ, 18, .inl m_may)), (qm_least, .inl (cI, 9, .inl m_least)), (qm_isCarried, .inl (cZ, 18, .inl m_isCarried)), (qm_list, .inl (cI, 18, .inl m_list)), (qm_nodes, .inl (cI, 41, .inl m_nodes)), (qm_sums, .inl (cI, 8, .inl m_sums))] → va_S A s.heap H locs → lv_has ls 6 [(0, .ref qm), (5, .int x5)] → f_X6_layPair_b90 x5 s0 s1 s2 m_w m_may m_least m_isCarried m_list m_nodes m_listMany m_went m_cost m_cause m_looks m_sums = some (z_m_may, z_m_least, z_m_isCarried, z_m_list, z_m_nodes, z_m_listMany, z_m_went, z_m_cost, z_m_cause, z_m_looks, z_m_sums) → W p l e { frames := 5, cells := 0, slots := 0, locals := 119 } s m ([.ref qm, .int p1, .int p2, .int p3, .int p4] : List Value).toArray below meth c H locs 0 0 (MQ below (k_QV D [(qm, .inr (6, [.ref qm_w, .ref qm_past, .int m_pastMany, .ref qm_images, .int m_filled, .ref qm_text, .int m_length, .ref qm_may, .ref qm_least, .ref qm_isCarried, .ref qm_list, .ref qm_nodes, .int z_m_listMany, .int z_m_went, .int z_m_cost, .int z_m_cause, .int z_m_looks, .int m_isSent, .int m_isOld, .ref qm_kept, .ref qm_keptLow, .ref qm_keptHigh, .int m_keptMany, .ref qm_keptNodes, .ref qm_numbers, .ref qm_sums, .ref qm_commands, .int m_commandMany, .ref qm_held])), (qm_w, .inl (cI, 93, .inl m_w)), (qm_may, .inl (cZ, 18, .inl z_m_may)), (qm_least, .inl (cI, 9, .inl z_m_least)), (qm_isCarried, .inl (cZ, 18, .inl z_m_isCarried)), (qm_list, .inl (cI, 18, .inl z_m_list)), (qm_nodes, .inl (cI, 41, .inl z_m_nodes)), (qm_sums, .inl (cI, 8, .inl z_m_sums))] A) ([.ref qm, .int p1, .int p2, .int p3, .int p4] : List Value).toArray s 0 0 A) (F0 m 90 ls [.int s0, .int s1, .int s2, .ref qm_sums]) := by
        intro x5 s0 s1 s2 m_w m_may m_least m_isCarried m_list m_nodes m_listMany m_went m_cost m_cause m_looks m_sums H locs ls hP hD hS hl h
        unfold f_X6_layPair_b90 at h
        refine lv_iadd hx hb dX6_layPair_90 ?_
        obtain ⟨hin_21, h⟩ := ob_if h
        have hin_21 := inb_in hin_21
        refine va_iast (D := D) hx hb hK hP hD hS 7 0 rfl rfl hin_21 dX6_layPair_91 (fun H locs hP hD hS => ?_)
        have hP : va_P D vwCl [(qm, .inr (6, [.ref qm_w, .ref qm_past, .int m_pastMany, .ref qm_images, .int m_filled, .ref qm_text, .int m_length, .ref qm_may, .ref qm_least, .ref qm_isCarried, .ref qm_list, .ref qm_nodes, .int m_listMany, .int m_went, .int m_cost, .int m_cause, .int m_looks, .int m_isSent, .int m_isOld, .ref qm_kept, .ref qm_keptLow, .ref qm_keptHigh, .int m_keptMany, .ref qm_keptNodes, .ref qm_numbers, .ref qm_sums, .ref qm_commands, .int m_commandMany, .ref qm_held])), (qm_w, .inl (cI, 93, .inl m_w)), (qm_may, .inl (cZ, 18, .inl m_may)), (qm_least, .inl (cI, 9, .inl m_least)), (qm_isCarried, .inl (cZ, 18, .inl m_isCarried)), (qm_list, .inl (cI, 18, .inl m_list)), (qm_nodes, .inl (cI, 41, .inl m_nodes)), (qm_sums, .inl (cI, 8, .inl (upd m_sums (Int32.toNatClampNeg s2) (s1 + s0))))] H := hP
        have hD : va_D A [(qm, .inr (6, [.ref qm_w, .ref qm_past, .int m_pastMany, .ref qm_images, .int m_filled, .ref qm_text, .int m_length, .ref qm_may, .ref qm_least, .ref qm_isCarried, .ref qm_list, .ref qm_nodes, .int m_listMany, .int m_went, .int m_cost, .int m_cause, .int m_looks, .int m_isSent, .int m_isOld, .ref qm_kept, .ref qm_keptLow, .ref qm_keptHigh, .int m_keptMany, .ref qm_keptNodes, .ref qm_numbers, .ref qm_sums, .ref qm_commands, .int m_commandMany, .ref qm_held])), (qm_w, .inl (cI, 93, .inl m_w)), (qm_may, .inl (cZ, 18, .inl m_may)), (qm_least, .inl (cI, 9, .inl m_least)), (qm_isCarried, .inl (cZ, 18, .inl m_isCarried)), (qm_list, .inl (cI, 18, .inl m_list)), (qm_nodes, .inl (cI, 41, .inl m_nodes)), (qm_sums, .inl (cI, 8, .inl (upd m_sums (Int32.toNatClampNeg s2) (s1 + s0))))] := hD
        refine lv_aload_n hx hb dX6_layPair_92 rfl (lv_at hl 0 rfl) ?_
        refine lv_iconst (v := (5 : Int32)) hx hb dX6_layPair_93 (by decide) ?_
        refine lv_aload_n hx hb dX6_layPair_94 rfl (lv_at hl 0 rfl) ?_
        refine va_get (D := D) (ci := 6) (v := .int m_listMany) (C := RX6) (T := TX6) (N := 29) hx hb hu k_iX6 hown hK hP 0 rfl rfl 12 (by decide) (hu _ u_730) (fun _ h9 => h9) rfl dX6_layPair_95 ?_
        obtain ⟨o_22, hc_23, h⟩ := ob_bind h
        refine k_callVV (qb := 0) [0, 7] [1] [7] [(qm_sums, .inl (cI, 8, .inl o_22))] (As := [.int (5 : Int32), .int m_listMany]) (rest := []) ⟨hx, hb, hml, hown, hts⟩ hT hZ hA hP hD hS (c_X6_note l D cI cZ cN aK aV qm qm_w qm_past qm_images qm_text qm_may qm_least qm_isCarried qm_list qm_nodes qm_kept qm_keptLow qm_keptHigh qm_keptNodes qm_numbers qm_sums qm_commands qm_held m_pastMany m_filled m_length m_listMany m_went m_cost m_cause m_looks m_isSent m_isOld m_keptMany (upd m_sums (Int32.toNatClampNeg s2) (s1 + s0)) m_commandMany (5 : Int32) m_listMany o_22 hc_23) ⟨callB_of 2 hts (k_good u_969) rfl rfl rfl (hu _ u_51) (hu _ u_966) (by decide +kernel) ⟨Nat.le_of_ble_eq_true rfl, Nat.le_of_ble_eq_true rfl⟩, hu _ u_968, hu _ u_39⟩ rfl rfl rfl (by decide) (by decide) (by decide) rfl rfl rfl rfl hl.1 rfl (Nat.le_of_ble_eq_true rfl) dX6_layPair_98 (fun H locs hP hD hS => ?_)
        have hP : va_P D vwCl [(qm, .inr (6, [.ref qm_w, .ref qm_past, .int m_pastMany, .ref qm_images, .int m_filled, .ref qm_text, .int m_length, .ref qm_may, .ref qm_least, .ref qm_isCarried, .ref qm_list, .ref qm_nodes, .int m_listMany, .int m_went, .int m_cost, .int m_cause, .int m_looks, .int m_isSent, .int m_isOld, .ref qm_kept, .ref qm_keptLow, .ref qm_keptHigh, .int m_keptMany, .ref qm_keptNodes, .ref qm_numbers, .ref qm_sums, .ref qm_commands, .int m_commandMany, .ref qm_held])), (qm_w, .inl (cI, 93, .inl m_w)), (qm_may, .inl (cZ, 18, .inl m_may)), (qm_least, .inl (cI, 9, .inl m_least)), (qm_isCarried, .inl (cZ, 18, .inl m_isCarried)), (qm_list, .inl (cI, 18, .inl m_list)), (qm_nodes, .inl (cI, 41, .inl m_nodes)), (qm_sums, .inl (cI, 8, .inl o_22))] H := hP
        have hD : va_D A [(qm, .inr (6, [.ref qm_w, .ref qm_past, .int m_pastMany, .ref qm_images, .int m_filled, .ref qm_text, .int m_length, .ref qm_may, .ref qm_least, .ref qm_isCarried, .ref qm_list, .ref qm_nodes, .int m_listMany, .int m_went, .int m_cost, .int m_cause, .int m_looks, .int m_isSent, .int m_isOld, .ref qm_kept, .ref qm_keptLow, .ref qm_keptHigh, .int m_keptMany, .ref qm_keptNodes, .ref qm_numbers, .ref qm_sums, .ref qm_commands, .int m_commandMany, .ref qm_held])), (qm_w, .inl (cI, 93, .inl m_w)), (qm_may, .inl (cZ, 18, .inl m_may)), (qm_least, .inl (cI, 9, .inl m_least)), (qm_isCarried, .inl (cZ, 18, .inl m_isCarried)), (qm_list, .inl (cI, 18, .inl m_list)), (qm_nodes, .inl (cI, 41, .inl m_nodes)), (qm_sums, .inl (cI, 8, .inl o_22))] := hD
        refine lv_aload_n hx hb dX6_layPair_101 rfl (lv_at hl 0 rfl) ?_
        refine lv_bipush (v := (6 : Int32)) hx hb dX6_layPair_102 (by decide) ?_
        refine lv_aload_n hx hb dX6_layPair_104 rfl (lv_at hl 0 rfl) ?_
        refine va_get (D := D) (ci := 6) (v := .int m_went) (C := RX6) (T := TX6) (N := 29) hx hb hu k_iX6 hown hK hP 0 rfl rfl 13 (by decide) (hu _ u_731) (fun _ h9 => h9) rfl dX6_layPair_105 ?_
        obtain ⟨o_24, hc_25, h⟩ := ob_bind h
        refine k_callVV (qb := 0) [0, 7] [1] [7] [(qm_sums, .inl (cI, 8, .inl o_24))] (As := [.int (6 : Int32), .int m_went]) (rest := []) ⟨hx, hb, hml, hown, hts⟩ hT hZ hA hP hD hS (c_X6_note l D cI cZ cN aK aV qm qm_w qm_past qm_images qm_text qm_may qm_least qm_isCarried qm_list qm_nodes qm_kept qm_keptLow qm_keptHigh qm_keptNodes qm_numbers qm_sums qm_commands qm_held m_pastMany m_filled m_length m_listMany m_went m_cost m_cause m_looks m_isSent m_isOld m_keptMany o_22 m_commandMany (6 : Int32) m_went o_24 hc_25) ⟨callB_of 2 hts (k_good u_969) rfl rfl rfl (hu _ u_51) (hu _ u_966) (by decide +kernel) ⟨Nat.le_of_ble_eq_true rfl, Nat.le_of_ble_eq_true rfl⟩, hu _ u_968, hu _ u_39⟩ rfl rfl rfl (by decide) (by decide) (by decide) rfl rfl rfl rfl hl.1 rfl (Nat.le_of_ble_eq_true rfl) dX6_layPair_108 (fun H locs hP hD hS => ?_)
        have hP : va_P D vwCl [(qm, .inr (6, [.ref qm_w, .ref qm_past, .int m_pastMany, .ref qm_images, .int m_filled, .ref qm_text, .int m_length, .ref qm_may, .ref qm_least, .ref qm_isCarried, .ref qm_list, .ref qm_nodes, .int m_listMany, .int m_went, .int m_cost, .int m_cause, .int m_looks, .int m_isSent, .int m_isOld, .ref qm_kept, .ref qm_keptLow, .ref qm_keptHigh, .int m_keptMany, .ref qm_keptNodes, .ref qm_numbers, .ref qm_sums, .ref qm_commands, .int m_commandMany, .ref qm_held])), (qm_w, .inl (cI, 93, .inl m_w)), (qm_may, .inl (cZ, 18, .inl m_may)), (qm_least, .inl (cI, 9, .inl m_least)), (qm_isCarried, .inl (cZ, 18, .inl m_isCarried)), (qm_list, .inl (cI, 18, .inl m_list)), (qm_nodes, .inl (cI, 41, .inl m_nodes)), (qm_sums, .inl (cI, 8, .inl o_24))] H := hP
        have hD : va_D A [(qm, .inr (6, [.ref qm_w, .ref qm_past, .int m_pastMany, .ref qm_images, .int m_filled, .ref qm_text, .int m_length, .ref qm_may, .ref qm_least, .ref qm_isCarried, .ref qm_list, .ref qm_nodes, .int m_listMany, .int m_went, .int m_cost, .int m_cause, .int m_looks, .int m_isSent, .int m_isOld, .ref qm_kept, .ref qm_keptLow, .ref qm_keptHigh, .int m_keptMany, .ref qm_keptNodes, .ref qm_numbers, .ref qm_sums, .ref qm_commands, .int m_commandMany, .ref qm_held])), (qm_w, .inl (cI, 93, .inl m_w)), (qm_may, .inl (cZ, 18, .inl m_may)), (qm_least, .inl (cI, 9, .inl m_least)), (qm_isCarried, .inl (cZ, 18, .inl m_isCarried)), (qm_list, .inl (cI, 18, .inl m_list)), (qm_nodes, .inl (cI, 41, .inl m_nodes)), (qm_sums, .inl (cI, 8, .inl o_24))] := hD
        refine lv_aload_n hx hb dX6_layPair_111 rfl (lv_at hl 0 rfl) ?_
        refine va_get (D := D) (ci := 6) (v := .int m_cause) (C := RX6) (T := TX6) (N := 29) hx hb hu k_iX6 hown hK hP 0 rfl rfl 15 (by decide) (hu _ u_733) (fun _ h9 => h9) rfl dX6_layPair_112 ?_
        refine lv_if_ne (tgt := 176) hx hb dX6_layPair_115 (by decide) (fun cc_26 => ?_) (fun cc_26 => ?_)
        · have h := (if_neg cc_26).symm.trans h
          have hq := Option.some.inj h
          clear h
          obtain ⟨e0, hq0⟩ := Prod.mk.inj hq
          clear hq
          obtain ⟨e1, hq1⟩ := Prod.mk.inj hq0
          clear hq0
          obtain ⟨e2, hq2⟩ := Prod.mk.inj hq1
          clear hq1
          obtain ⟨e3, hq3⟩ := Prod.mk.inj hq2
          clear hq2
          obtain ⟨e4, hq4⟩ := Prod.mk.inj hq3
          clear hq3
          obtain ⟨e5, hq5⟩ := Prod.mk.inj hq4
          clear hq4
          obtain ⟨e6, hq6⟩ := Prod.mk.inj hq5
          clear hq5
          obtain ⟨e7, hq7⟩ := Prod.mk.inj hq6
          clear hq6
          obtain ⟨e8, hq8⟩ := Prod.mk.inj hq7
          clear hq7
          obtain ⟨e9, hq9⟩ := Prod.mk.inj hq8
          clear hq8
          subst e0
          subst e1
          subst e2
          subst e3
          subst e4
          subst e5
          subst e6
          subst e7
          subst e8
          subst e9
          subst hq9
          exact k_retV hx hb hr hlocks hP hD hS dX6_layPair_176
        · have h := (if_pos cc_26).symm.trans h
          refine lv_aload_n hx hb dX6_layPair_118 rfl (lv_at hl 0 rfl) ?_
          refine va_get (D := D) (ci := 6) (v := .ref qm_sums) (C := RX6) (T := TX6) (N := 29) hx hb hu k_iX6 hown hK hP 0 rfl rfl 25 (by decide) (hu _ u_743) (fun _ h9 => h9) rfl dX6_layPair_119 ?_
          refine lv_iconst (v := (1 : Int32)) hx hb dX6_layPair_122 (by decide) ?_
          refine lv_dup2_11 hx hb dX6_layPair_123 rfl rfl ?_
          refine va_iald (D := D) hx hb hK hP 7 0 rfl rfl (inb_in (by decide)) dX6_layPair_124 ?_
          refine lv_iconst (v := (1 : Int32)) hx hb dX6_layPair_125 (by decide) ?_
          refine lv_iadd hx hb dX6_layPair_126 ?_
          refine va_iast (D := D) hx hb hK hP hD hS 7 0 rfl rfl (inb_in (by decide)) dX6_layPair_127 (fun H locs hP hD hS => ?_)
          have hP : va_P D vwCl [(qm, .inr (6, [.ref qm_w, .ref qm_past, .int m_pastMany, .ref qm_images, .int m_filled, .ref qm_text, .int m_length, .ref qm_may, .ref qm_least, .ref qm_isCarried, .ref qm_list, .ref qm_nodes, .int m_listMany, .int m_went, .int m_cost, .int m_cause, .int m_looks, .int m_isSent, .int m_isOld, .ref qm_kept, .ref qm_keptLow, .ref qm_keptHigh, .int m_keptMany, .ref qm_keptNodes, .ref qm_numbers, .ref qm_sums, .ref qm_commands, .int m_commandMany, .ref qm_held])), (qm_w, .inl (cI, 93, .inl m_w)), (qm_may, .inl (cZ, 18, .inl m_may)), (qm_least, .inl (cI, 9, .inl m_least)), (qm_isCarried, .inl (cZ, 18, .inl m_isCarried)), (qm_list, .inl (cI, 18, .inl m_list)), (qm_nodes, .inl (cI, 41, .inl m_nodes)), (qm_sums, .inl (cI, 8, .inl (upd o_24 (Int32.toNatClampNeg (1 : Int32)) ((o_24 (Int32.toNatClampNeg (1 : Int32))) + (1 : Int32)))))] H := hP
          have hD : va_D A [(qm, .inr (6, [.ref qm_w, .ref qm_past, .int m_pastMany, .ref qm_images, .int m_filled, .ref qm_text, .int m_length, .ref qm_may, .ref qm_least, .ref qm_isCarried, .ref qm_list, .ref qm_nodes, .int m_listMany, .int m_went, .int m_cost, .int m_cause, .int m_looks, .int m_isSent, .int m_isOld, .ref qm_kept, .ref qm_keptLow, .ref qm_keptHigh, .int m_keptMany, .ref qm_keptNodes, .ref qm_numbers, .ref qm_sums, .ref qm_commands, .int m_commandMany, .ref qm_held])), (qm_w, .inl (cI, 93, .inl m_w)), (qm_may, .inl (cZ, 18, .inl m_may)), (qm_least, .inl (cI, 9, .inl m_least)), (qm_isCarried, .inl (cZ, 18, .inl m_isCarried)), (qm_list, .inl (cI, 18, .inl m_list)), (qm_nodes, .inl (cI, 41, .inl m_nodes)), (qm_sums, .inl (cI, 8, .inl (upd o_24 (Int32.toNatClampNeg (1 : Int32)) ((o_24 (Int32.toNatClampNeg (1 : Int32))) + (1 : Int32)))))] := hD
          refine lv_aload_n hx hb dX6_layPair_128 rfl (lv_at hl 0 rfl) ?_
          refine va_get (D := D) (ci := 6) (v := .ref qm_sums) (C := RX6) (T := TX6) (N := 29) hx hb hu k_iX6 hown hK hP 0 rfl rfl 25 (by decide) (hu _ u_743) (fun _ h9 => h9) rfl dX6_layPair_129 ?_
          refine lv_iconst (v := (3 : Int32)) hx hb dX6_layPair_132 (by decide) ?_
          refine lv_dup2_11 hx hb dX6_layPair_133 rfl rfl ?_
          refine va_iald (D := D) hx hb hK hP 7 0 rfl rfl (inb_in (by decide)) dX6_layPair_134 ?_
          refine lv_aload_n hx hb dX6_layPair_135 rfl (lv_at hl 0 rfl) ?_
          refine va_get (D := D) (ci := 6) (v := .int m_cost) (C := RX6) (T := TX6) (N := 29) hx hb hu k_iX6 hown hK hP 0 rfl rfl 14 (by decide) (hu _ u_732) (fun _ h9 => h9) rfl dX6_layPair_136 ?_
          refine lv_iadd hx hb dX6_layPair_139 ?_
          refine va_iast (D := D) hx hb hK hP hD hS 7 0 rfl rfl (inb_in (by decide)) dX6_layPair_140 (fun H locs hP hD hS => ?_)
          have hP : va_P D vwCl [(qm, .inr (6, [.ref qm_w, .ref qm_past, .int m_pastMany, .ref qm_images, .int m_filled, .ref qm_text, .int m_length, .ref qm_may, .ref qm_least, .ref qm_isCarried, .ref qm_list, .ref qm_nodes, .int m_listMany, .int m_went, .int m_cost, .int m_cause, .int m_looks, .int m_isSent, .int m_isOld, .ref qm_kept, .ref qm_keptLow, .ref qm_keptHigh, .int m_keptMany, .ref qm_keptNodes, .ref qm_numbers, .ref qm_sums, .ref qm_commands, .int m_commandMany, .ref qm_held])), (qm_w, .inl (cI, 93, .inl m_w)), (qm_may, .inl (cZ, 18, .inl m_may)), (qm_least, .inl (cI, 9, .inl m_least)), (qm_isCarried, .inl (cZ, 18, .inl m_isCarried)), (qm_list, .inl (cI, 18, .inl m_list)), (qm_nodes, .inl (cI, 41, .inl m_nodes)), (qm_sums, .inl (cI, 8, .inl (upd (upd o_24 (Int32.toNatClampNeg (1 : Int32)) ((o_24 (Int32.toNatClampNeg (1 : Int32))) + (1 : Int32))) (Int32.toNatClampNeg (3 : Int32)) (((upd o_24 (Int32.toNatClampNeg (1 : Int32)) ((o_24 (Int32.toNatClampNeg (1 : Int32))) + (1 : Int32))) (Int32.toNatClampNeg (3 : Int32))) + m_cost))))] H := hP
          have hD : va_D A [(qm, .inr (6, [.ref qm_w, .ref qm_past, .int m_pastMany, .ref qm_images, .int m_filled, .ref qm_text, .int m_length, .ref qm_may, .ref qm_least, .ref qm_isCarried, .ref qm_list, .ref qm_nodes, .int m_listMany, .int m_went, .int m_cost, .int m_cause, .int m_looks, .int m_isSent, .int m_isOld, .ref qm_kept, .ref qm_keptLow, .ref qm_keptHigh, .int m_keptMany, .ref qm_keptNodes, .ref qm_numbers, .ref qm_sums, .ref qm_commands, .int m_commandMany, .ref qm_held])), (qm_w, .inl (cI, 93, .inl m_w)), (qm_may, .inl (cZ, 18, .inl m_may)), (qm_least, .inl (cI, 9, .inl m_least)), (qm_isCarried, .inl (cZ, 18, .inl m_isCarried)), (qm_list, .inl (cI, 18, .inl m_list)), (qm_nodes, .inl (cI, 41, .inl m_nodes)), (qm_sums, .inl (cI, 8, .inl (upd (upd o_24 (Int32.toNatClampNeg (1 : Int32)) ((o_24 (Int32.toNatClampNeg (1 : Int32))) + (1 : Int32))) (Int32.toNatClampNeg (3 : Int32)) (((upd o_24 (Int32.toNatClampNeg (1 : Int32)) ((o_24 (Int32.toNatClampNeg (1 : Int32))) + (1 : Int32))) (Int32.toNatClampNeg (3 : Int32))) + m_cost))))] := hD
          refine lv_aload_n hx hb dX6_layPair_141 rfl (lv_at hl 0 rfl) ?_
          refine va_get (D := D) (ci := 6) (v := .ref qm_sums) (C := RX6) (T := TX6) (N := 29) hx hb hu k_iX6 hown hK hP 0 rfl rfl 25 (by decide) (hu _ u_743) (fun _ h9 => h9) rfl dX6_layPair_142 ?_
          refine lv_iconst (v := (4 : Int32)) hx hb dX6_layPair_145 (by decide) ?_
          refine lv_dup2_11 hx hb dX6_layPair_146 rfl rfl ?_
          refine va_iald (D := D) hx hb hK hP 7 0 rfl rfl (inb_in (by decide)) dX6_layPair_147 ?_
          refine lv_iload hx hb dX6_layPair_148 (lv_at hl 1 rfl) ?_
          refine lv_iadd hx hb dX6_layPair_150 ?_
          refine va_iast (D := D) hx hb hK hP hD hS 7 0 rfl rfl (inb_in (by decide)) dX6_layPair_151 (fun H locs hP hD hS => ?_)
          have hP : va_P D vwCl [(qm, .inr (6, [.ref qm_w, .ref qm_past, .int m_pastMany, .ref qm_images, .int m_filled, .ref qm_text, .int m_length, .ref qm_may, .ref qm_least, .ref qm_isCarried, .ref qm_list, .ref qm_nodes, .int m_listMany, .int m_went, .int m_cost, .int m_cause, .int m_looks, .int m_isSent, .int m_isOld, .ref qm_kept, .ref qm_keptLow, .ref qm_keptHigh, .int m_keptMany, .ref qm_keptNodes, .ref qm_numbers, .ref qm_sums, .ref qm_commands, .int m_commandMany, .ref qm_held])), (qm_w, .inl (cI, 93, .inl m_w)), (qm_may, .inl (cZ, 18, .inl m_may)), (qm_least, .inl (cI, 9, .inl m_least)), (qm_isCarried, .inl (cZ, 18, .inl m_isCarried)), (qm_list, .inl (cI, 18, .inl m_list)), (qm_nodes, .inl (cI, 41, .inl m_nodes)), (qm_sums, .inl (cI, 8, .inl (upd (upd (upd o_24 (Int32.toNatClampNeg (1 : Int32)) ((o_24 (Int32.toNatClampNeg (1 : Int32))) + (1 : Int32))) (Int32.toNatClampNeg (3 : Int32)) (((upd o_24 (Int32.toNatClampNeg (1 : Int32)) ((o_24 (Int32.toNatClampNeg (1 : Int32))) + (1 : Int32))) (Int32.toNatClampNeg (3 : Int32))) + m_cost)) (Int32.toNatClampNeg (4 : Int32)) (((upd (upd o_24 (Int32.toNatClampNeg (1 : Int32)) ((o_24 (Int32.toNatClampNeg (1 : Int32))) + (1 : Int32))) (Int32.toNatClampNeg (3 : Int32)) (((upd o_24 (Int32.toNatClampNeg (1 : Int32)) ((o_24 (Int32.toNatClampNeg (1 : Int32))) + (1 : Int32))) (Int32.toNatClampNeg (3 : Int32))) + m_cost)) (Int32.toNatClampNeg (4 : Int32))) + x5))))] H := hP
          have hD : va_D A [(qm, .inr (6, [.ref qm_w, .ref qm_past, .int m_pastMany, .ref qm_images, .int m_filled, .ref qm_text, .int m_length, .ref qm_may, .ref qm_least, .ref qm_isCarried, .ref qm_list, .ref qm_nodes, .int m_listMany, .int m_went, .int m_cost, .int m_cause, .int m_looks, .int m_isSent, .int m_isOld, .ref qm_kept, .ref qm_keptLow, .ref qm_keptHigh, .int m_keptMany, .ref qm_keptNodes, .ref qm_numbers, .ref qm_sums, .ref qm_commands, .int m_commandMany, .ref qm_held])), (qm_w, .inl (cI, 93, .inl m_w)), (qm_may, .inl (cZ, 18, .inl m_may)), (qm_least, .inl (cI, 9, .inl m_least)), (qm_isCarried, .inl (cZ, 18, .inl m_isCarried)), (qm_list, .inl (cI, 18, .inl m_list)), (qm_nodes, .inl (cI, 41, .inl m_nodes)), (qm_sums, .inl (cI, 8, .inl (upd (upd (upd o_24 (Int32.toNatClampNeg (1 : Int32)) ((o_24 (Int32.toNatClampNeg (1 : Int32))) + (1 : Int32))) (Int32.toNatClampNeg (3 : Int32)) (((upd o_24 (Int32.toNatClampNeg (1 : Int32)) ((o_24 (Int32.toNatClampNeg (1 : Int32))) + (1 : Int32))) (Int32.toNatClampNeg (3 : Int32))) + m_cost)) (Int32.toNatClampNeg (4 : Int32)) (((upd (upd o_24 (Int32.toNatClampNeg (1 : Int32)) ((o_24 (Int32.toNatClampNeg (1 : Int32))) + (1 : Int32))) (Int32.toNatClampNeg (3 : Int32)) (((upd o_24 (Int32.toNatClampNeg (1 : Int32)) ((o_24 (Int32.toNatClampNeg (1 : Int32))) + (1 : Int32))) (Int32.toNatClampNeg (3 : Int32))) + m_cost)) (Int32.toNatClampNeg (4 : Int32))) + x5))))] := hD
          refine lv_aload_n hx hb dX6_layPair_152 rfl (lv_at hl 0 rfl) ?_
          refine va_get (D := D) (ci := 6) (v := .ref qm_sums) (C := RX6) (T := TX6) (N := 29) hx hb hu k_iX6 hown hK hP 0 rfl rfl 25 (by decide) (hu _ u_743) (fun _ h9 => h9) rfl dX6_layPair_153 ?_
          refine lv_bipush (v := (7 : Int32)) hx hb dX6_layPair_156 (by decide) ?_
          refine lv_dup2_11 hx hb dX6_layPair_158 rfl rfl ?_
          refine va_iald (D := D) hx hb hK hP 7 0 rfl rfl (inb_in (by decide)) dX6_layPair_159 ?_
          refine lv_aload_n hx hb dX6_layPair_160 rfl (lv_at hl 0 rfl) ?_
          refine va_get (D := D) (ci := 6) (v := .int m_cost) (C := RX6) (T := TX6) (N := 29) hx hb hu k_iX6 hown hK hP 0 rfl rfl 14 (by decide) (hu _ u_732) (fun _ h9 => h9) rfl dX6_layPair_161 ?_
          refine lv_iload hx hb dX6_layPair_164 (lv_at hl 1 rfl) ?_
          refine lv_icmp_le (tgt := 173) hx hb dX6_layPair_166 (by decide) (fun cc_27 => ?_) (fun cc_27 => ?_)
          · have h := (if_pos cc_27).symm.trans h
            refine lv_iconst (v := (0 : Int32)) hx hb dX6_layPair_173 (by decide) ?_
            refine lv_iadd hx hb dX6_layPair_174 ?_
            refine va_iast (D := D) hx hb hK hP hD hS 7 0 rfl rfl (inb_in (by decide)) dX6_layPair_175 (fun H locs hP hD hS => ?_)
            have hP : va_P D vwCl [(qm, .inr (6, [.ref qm_w, .ref qm_past, .int m_pastMany, .ref qm_images, .int m_filled, .ref qm_text, .int m_length, .ref qm_may, .ref qm_least, .ref qm_isCarried, .ref qm_list, .ref qm_nodes, .int m_listMany, .int m_went, .int m_cost, .int m_cause, .int m_looks, .int m_isSent, .int m_isOld, .ref qm_kept, .ref qm_keptLow, .ref qm_keptHigh, .int m_keptMany, .ref qm_keptNodes, .ref qm_numbers, .ref qm_sums, .ref qm_commands, .int m_commandMany, .ref qm_held])), (qm_w, .inl (cI, 93, .inl m_w)), (qm_may, .inl (cZ, 18, .inl m_may)), (qm_least, .inl (cI, 9, .inl m_least)), (qm_isCarried, .inl (cZ, 18, .inl m_isCarried)), (qm_list, .inl (cI, 18, .inl m_list)), (qm_nodes, .inl (cI, 41, .inl m_nodes)), (qm_sums, .inl (cI, 8, .inl (upd (upd (upd (upd o_24 (Int32.toNatClampNeg (1 : Int32)) ((o_24 (Int32.toNatClampNeg (1 : Int32))) + (1 : Int32))) (Int32.toNatClampNeg (3 : Int32)) (((upd o_24 (Int32.toNatClampNeg (1 : Int32)) ((o_24 (Int32.toNatClampNeg (1 : Int32))) + (1 : Int32))) (Int32.toNatClampNeg (3 : Int32))) + m_cost)) (Int32.toNatClampNeg (4 : Int32)) (((upd (upd o_24 (Int32.toNatClampNeg (1 : Int32)) ((o_24 (Int32.toNatClampNeg (1 : Int32))) + (1 : Int32))) (Int32.toNatClampNeg (3 : Int32)) (((upd o_24 (Int32.toNatClampNeg (1 : Int32)) ((o_24 (Int32.toNatClampNeg (1 : Int32))) + (1 : Int32))) (Int32.toNatClampNeg (3 : Int32))) + m_cost)) (Int32.toNatClampNeg (4 : Int32))) + x5)) (Int32.toNatClampNeg (7 : Int32)) (((upd (upd (upd o_24 (Int32.toNatClampNeg (1 : Int32)) ((o_24 (Int32.toNatClampNeg (1 : Int32))) + (1 : Int32))) (Int32.toNatClampNeg (3 : Int32)) (((upd o_24 (Int32.toNatClampNeg (1 : Int32)) ((o_24 (Int32.toNatClampNeg (1 : Int32))) + (1 : Int32))) (Int32.toNatClampNeg (3 : Int32))) + m_cost)) (Int32.toNatClampNeg (4 : Int32)) (((upd (upd o_24 (Int32.toNatClampNeg (1 : Int32)) ((o_24 (Int32.toNatClampNeg (1 : Int32))) + (1 : Int32))) (Int32.toNatClampNeg (3 : Int32)) (((upd o_24 (Int32.toNatClampNeg (1 : Int32)) ((o_24 (Int32.toNatClampNeg (1 : Int32))) + (1 : Int32))) (Int32.toNatClampNeg (3 : Int32))) + m_cost)) (Int32.toNatClampNeg (4 : Int32))) + x5)) (Int32.toNatClampNeg (7 : Int32))) + (0 : Int32)))))] H := hP
            have hD : va_D A [(qm, .inr (6, [.ref qm_w, .ref qm_past, .int m_pastMany, .ref qm_images, .int m_filled, .ref qm_text, .int m_length, .ref qm_may, .ref qm_least, .ref qm_isCarried, .ref qm_list, .ref qm_nodes, .int m_listMany, .int m_went, .int m_cost, .int m_cause, .int m_looks, .int m_isSent, .int m_isOld, .ref qm_kept, .ref qm_keptLow, .ref qm_keptHigh, .int m_keptMany, .ref qm_keptNodes, .ref qm_numbers, .ref qm_sums, .ref qm_commands, .int m_commandMany, .ref qm_held])), (qm_w, .inl (cI, 93, .inl m_w)), (qm_may, .inl (cZ, 18, .inl m_may)), (qm_least, .inl (cI, 9, .inl m_least)), (qm_isCarried, .inl (cZ, 18, .inl m_isCarried)), (qm_list, .inl (cI, 18, .inl m_list)), (qm_nodes, .inl (cI, 41, .inl m_nodes)), (qm_sums, .inl (cI, 8, .inl (upd (upd (upd (upd o_24 (Int32.toNatClampNeg (1 : Int32)) ((o_24 (Int32.toNatClampNeg (1 : Int32))) + (1 : Int32))) (Int32.toNatClampNeg (3 : Int32)) (((upd o_24 (Int32.toNatClampNeg (1 : Int32)) ((o_24 (Int32.toNatClampNeg (1 : Int32))) + (1 : Int32))) (Int32.toNatClampNeg (3 : Int32))) + m_cost)) (Int32.toNatClampNeg (4 : Int32)) (((upd (upd o_24 (Int32.toNatClampNeg (1 : Int32)) ((o_24 (Int32.toNatClampNeg (1 : Int32))) + (1 : Int32))) (Int32.toNatClampNeg (3 : Int32)) (((upd o_24 (Int32.toNatClampNeg (1 : Int32)) ((o_24 (Int32.toNatClampNeg (1 : Int32))) + (1 : Int32))) (Int32.toNatClampNeg (3 : Int32))) + m_cost)) (Int32.toNatClampNeg (4 : Int32))) + x5)) (Int32.toNatClampNeg (7 : Int32)) (((upd (upd (upd o_24 (Int32.toNatClampNeg (1 : Int32)) ((o_24 (Int32.toNatClampNeg (1 : Int32))) + (1 : Int32))) (Int32.toNatClampNeg (3 : Int32)) (((upd o_24 (Int32.toNatClampNeg (1 : Int32)) ((o_24 (Int32.toNatClampNeg (1 : Int32))) + (1 : Int32))) (Int32.toNatClampNeg (3 : Int32))) + m_cost)) (Int32.toNatClampNeg (4 : Int32)) (((upd (upd o_24 (Int32.toNatClampNeg (1 : Int32)) ((o_24 (Int32.toNatClampNeg (1 : Int32))) + (1 : Int32))) (Int32.toNatClampNeg (3 : Int32)) (((upd o_24 (Int32.toNatClampNeg (1 : Int32)) ((o_24 (Int32.toNatClampNeg (1 : Int32))) + (1 : Int32))) (Int32.toNatClampNeg (3 : Int32))) + m_cost)) (Int32.toNatClampNeg (4 : Int32))) + x5)) (Int32.toNatClampNeg (7 : Int32))) + (0 : Int32)))))] := hD
            have hq := Option.some.inj h
            clear h
            obtain ⟨e0, hq0⟩ := Prod.mk.inj hq
            clear hq
            obtain ⟨e1, hq1⟩ := Prod.mk.inj hq0
            clear hq0
            obtain ⟨e2, hq2⟩ := Prod.mk.inj hq1
            clear hq1
            obtain ⟨e3, hq3⟩ := Prod.mk.inj hq2
            clear hq2
            obtain ⟨e4, hq4⟩ := Prod.mk.inj hq3
            clear hq3
            obtain ⟨e5, hq5⟩ := Prod.mk.inj hq4
            clear hq4
            obtain ⟨e6, hq6⟩ := Prod.mk.inj hq5
            clear hq5
            obtain ⟨e7, hq7⟩ := Prod.mk.inj hq6
            clear hq6
            obtain ⟨e8, hq8⟩ := Prod.mk.inj hq7
            clear hq7
            obtain ⟨e9, hq9⟩ := Prod.mk.inj hq8
            clear hq8
            subst e0
            subst e1
            subst e2
            subst e3
            subst e4
            subst e5
            subst e6
            subst e7
            subst e8
            subst e9
            subst hq9
            exact k_retV hx hb hr hlocks hP hD hS dX6_layPair_176
          · have h := (if_neg cc_27).symm.trans h
            refine lv_iconst (v := (1 : Int32)) hx hb dX6_layPair_169 (by decide) ?_
            refine lv_goto (tgt := 174) hx hb dX6_layPair_170 (by decide) ?_
            refine lv_iadd hx hb dX6_layPair_174 ?_
            refine va_iast (D := D) hx hb hK hP hD hS 7 0 rfl rfl (inb_in (by decide)) dX6_layPair_175 (fun H locs hP hD hS => ?_)
            have hP : va_P D vwCl [(qm, .inr (6, [.ref qm_w, .ref qm_past, .int m_pastMany, .ref qm_images, .int m_filled, .ref qm_text, .int m_length, .ref qm_may, .ref qm_least, .ref qm_isCarried, .ref qm_list, .ref qm_nodes, .int m_listMany, .int m_went, .int m_cost, .int m_cause, .int m_looks, .int m_isSent, .int m_isOld, .ref qm_kept, .ref qm_keptLow, .ref qm_keptHigh, .int m_keptMany, .ref qm_keptNodes, .ref qm_numbers, .ref qm_sums, .ref qm_commands, .int m_commandMany, .ref qm_held])), (qm_w, .inl (cI, 93, .inl m_w)), (qm_may, .inl (cZ, 18, .inl m_may)), (qm_least, .inl (cI, 9, .inl m_least)), (qm_isCarried, .inl (cZ, 18, .inl m_isCarried)), (qm_list, .inl (cI, 18, .inl m_list)), (qm_nodes, .inl (cI, 41, .inl m_nodes)), (qm_sums, .inl (cI, 8, .inl (upd (upd (upd (upd o_24 (Int32.toNatClampNeg (1 : Int32)) ((o_24 (Int32.toNatClampNeg (1 : Int32))) + (1 : Int32))) (Int32.toNatClampNeg (3 : Int32)) (((upd o_24 (Int32.toNatClampNeg (1 : Int32)) ((o_24 (Int32.toNatClampNeg (1 : Int32))) + (1 : Int32))) (Int32.toNatClampNeg (3 : Int32))) + m_cost)) (Int32.toNatClampNeg (4 : Int32)) (((upd (upd o_24 (Int32.toNatClampNeg (1 : Int32)) ((o_24 (Int32.toNatClampNeg (1 : Int32))) + (1 : Int32))) (Int32.toNatClampNeg (3 : Int32)) (((upd o_24 (Int32.toNatClampNeg (1 : Int32)) ((o_24 (Int32.toNatClampNeg (1 : Int32))) + (1 : Int32))) (Int32.toNatClampNeg (3 : Int32))) + m_cost)) (Int32.toNatClampNeg (4 : Int32))) + x5)) (Int32.toNatClampNeg (7 : Int32)) (((upd (upd (upd o_24 (Int32.toNatClampNeg (1 : Int32)) ((o_24 (Int32.toNatClampNeg (1 : Int32))) + (1 : Int32))) (Int32.toNatClampNeg (3 : Int32)) (((upd o_24 (Int32.toNatClampNeg (1 : Int32)) ((o_24 (Int32.toNatClampNeg (1 : Int32))) + (1 : Int32))) (Int32.toNatClampNeg (3 : Int32))) + m_cost)) (Int32.toNatClampNeg (4 : Int32)) (((upd (upd o_24 (Int32.toNatClampNeg (1 : Int32)) ((o_24 (Int32.toNatClampNeg (1 : Int32))) + (1 : Int32))) (Int32.toNatClampNeg (3 : Int32)) (((upd o_24 (Int32.toNatClampNeg (1 : Int32)) ((o_24 (Int32.toNatClampNeg (1 : Int32))) + (1 : Int32))) (Int32.toNatClampNeg (3 : Int32))) + m_cost)) (Int32.toNatClampNeg (4 : Int32))) + x5)) (Int32.toNatClampNeg (7 : Int32))) + (1 : Int32)))))] H := hP
            have hD : va_D A [(qm, .inr (6, [.ref qm_w, .ref qm_past, .int m_pastMany, .ref qm_images, .int m_filled, .ref qm_text, .int m_length, .ref qm_may, .ref qm_least, .ref qm_isCarried, .ref qm_list, .ref qm_nodes, .int m_listMany, .int m_went, .int m_cost, .int m_cause, .int m_looks, .int m_isSent, .int m_isOld, .ref qm_kept, .ref qm_keptLow, .ref qm_keptHigh, .int m_keptMany, .ref qm_keptNodes, .ref qm_numbers, .ref qm_sums, .ref qm_commands, .int m_commandMany, .ref qm_held])), (qm_w, .inl (cI, 93, .inl m_w)), (qm_may, .inl (cZ, 18, .inl m_may)), (qm_least, .inl (cI, 9, .inl m_least)), (qm_isCarried, .inl (cZ, 18, .inl m_isCarried)), (qm_list, .inl (cI, 18, .inl m_list)), (qm_nodes, .inl (cI, 41, .inl m_nodes)), (qm_sums, .inl (cI, 8, .inl (upd (upd (upd (upd o_24 (Int32.toNatClampNeg (1 : Int32)) ((o_24 (Int32.toNatClampNeg (1 : Int32))) + (1 : Int32))) (Int32.toNatClampNeg (3 : Int32)) (((upd o_24 (Int32.toNatClampNeg (1 : Int32)) ((o_24 (Int32.toNatClampNeg (1 : Int32))) + (1 : Int32))) (Int32.toNatClampNeg (3 : Int32))) + m_cost)) (Int32.toNatClampNeg (4 : Int32)) (((upd (upd o_24 (Int32.toNatClampNeg (1 : Int32)) ((o_24 (Int32.toNatClampNeg (1 : Int32))) + (1 : Int32))) (Int32.toNatClampNeg (3 : Int32)) (((upd o_24 (Int32.toNatClampNeg (1 : Int32)) ((o_24 (Int32.toNatClampNeg (1 : Int32))) + (1 : Int32))) (Int32.toNatClampNeg (3 : Int32))) + m_cost)) (Int32.toNatClampNeg (4 : Int32))) + x5)) (Int32.toNatClampNeg (7 : Int32)) (((upd (upd (upd o_24 (Int32.toNatClampNeg (1 : Int32)) ((o_24 (Int32.toNatClampNeg (1 : Int32))) + (1 : Int32))) (Int32.toNatClampNeg (3 : Int32)) (((upd o_24 (Int32.toNatClampNeg (1 : Int32)) ((o_24 (Int32.toNatClampNeg (1 : Int32))) + (1 : Int32))) (Int32.toNatClampNeg (3 : Int32))) + m_cost)) (Int32.toNatClampNeg (4 : Int32)) (((upd (upd o_24 (Int32.toNatClampNeg (1 : Int32)) ((o_24 (Int32.toNatClampNeg (1 : Int32))) + (1 : Int32))) (Int32.toNatClampNeg (3 : Int32)) (((upd o_24 (Int32.toNatClampNeg (1 : Int32)) ((o_24 (Int32.toNatClampNeg (1 : Int32))) + (1 : Int32))) (Int32.toNatClampNeg (3 : Int32))) + m_cost)) (Int32.toNatClampNeg (4 : Int32))) + x5)) (Int32.toNatClampNeg (7 : Int32))) + (1 : Int32)))))] := hD
            have hq := Option.some.inj h
            clear h
            obtain ⟨e0, hq0⟩ := Prod.mk.inj hq
            clear hq
            obtain ⟨e1, hq1⟩ := Prod.mk.inj hq0
            clear hq0
            obtain ⟨e2, hq2⟩ := Prod.mk.inj hq1
            clear hq1
            obtain ⟨e3, hq3⟩ := Prod.mk.inj hq2
            clear hq2
            obtain ⟨e4, hq4⟩ := Prod.mk.inj hq3
            clear hq3
            obtain ⟨e5, hq5⟩ := Prod.mk.inj hq4
            clear hq4
            obtain ⟨e6, hq6⟩ := Prod.mk.inj hq5
            clear hq5
            obtain ⟨e7, hq7⟩ := Prod.mk.inj hq6
            clear hq6
            obtain ⟨e8, hq8⟩ := Prod.mk.inj hq7
            clear hq7
            obtain ⟨e9, hq9⟩ := Prod.mk.inj hq8
            clear hq8
            subst e0
            subst e1
            subst e2
            subst e3
            subst e4
            subst e5
            subst e6
            subst e7
            subst e8
            subst e9
            subst hq9
            exact k_retV hx hb hr hlocks hP hD hS dX6_layPair_176
      refine lv_iadd hx hb dX6_layPair_62 ?_
      obtain ⟨hin_18, h⟩ := ob_if h
      have hin_18 := inb_in hin_18
      refine va_iast (D := D) hx hb hK hP hD hS 7 0 rfl rfl hin_18 dX6_layPair_63 (fun H locs hP hD hS => ?_)
      have hP : va_P D vwCl [(qm, .inr (6, [.ref qm_w, .ref qm_past, .int m_pastMany, .ref qm_images, .int m_filled, .ref qm_text, .int m_length, .ref qm_may, .ref qm_least, .ref qm_isCarried, .ref qm_list, .ref qm_nodes, .int m_listMany, .int m_went, .int m_cost, .int m_cause, .int m_looks, .int m_isSent, .int m_isOld, .ref qm_kept, .ref qm_keptLow, .ref qm_keptHigh, .int m_keptMany, .ref qm_keptNodes, .ref qm_numbers, .ref qm_sums, .ref qm_commands, .int m_commandMany, .ref qm_held])), (qm_w, .inl (cI, 93, .inl m_w)), (qm_may, .inl (cZ, 18, .inl m_may)), (qm_least, .inl (cI, 9, .inl m_least)), (qm_isCarried, .inl (cZ, 18, .inl m_isCarried)), (qm_list, .inl (cI, 18, .inl m_list)), (qm_nodes, .inl (cI, 41, .inl m_nodes)), (qm_sums, .inl (cI, 8, .inl (upd m_sums (Int32.toNatClampNeg s2) (s1 + s0))))] H := hP
      have hD : va_D A [(qm, .inr (6, [.ref qm_w, .ref qm_past, .int m_pastMany, .ref qm_images, .int m_filled, .ref qm_text, .int m_length, .ref qm_may, .ref qm_least, .ref qm_isCarried, .ref qm_list, .ref qm_nodes, .int m_listMany, .int m_went, .int m_cost, .int m_cause, .int m_looks, .int m_isSent, .int m_isOld, .ref qm_kept, .ref qm_keptLow, .ref qm_keptHigh, .int m_keptMany, .ref qm_keptNodes, .ref qm_numbers, .ref qm_sums, .ref qm_commands, .int m_commandMany, .ref qm_held])), (qm_w, .inl (cI, 93, .inl m_w)), (qm_may, .inl (cZ, 18, .inl m_may)), (qm_least, .inl (cI, 9, .inl m_least)), (qm_isCarried, .inl (cZ, 18, .inl m_isCarried)), (qm_list, .inl (cI, 18, .inl m_list)), (qm_nodes, .inl (cI, 41, .inl m_nodes)), (qm_sums, .inl (cI, 8, .inl (upd m_sums (Int32.toNatClampNeg s2) (s1 + s0))))] := hD
      refine lv_aload_n hx hb dX6_layPair_64 rfl (lv_at hl 0 rfl) ?_
      refine va_get (D := D) (ci := 6) (v := .ref qm_sums) (C := RX6) (T := TX6) (N := 29) hx hb hu k_iX6 hown hK hP 0 rfl rfl 25 (by decide) (hu _ u_743) (fun _ h9 => h9) rfl dX6_layPair_65 ?_
      refine lv_iconst (v := (2 : Int32)) hx hb dX6_layPair_68 (by decide) ?_
      refine lv_dup2_11 hx hb dX6_layPair_69 rfl rfl ?_
      refine va_iald (D := D) hx hb hK hP 7 0 rfl rfl (inb_in (by decide)) dX6_layPair_70 ?_
      refine lv_iload hx hb dX6_layPair_71 (lv_at hl 1 rfl) ?_
      refine lv_bipush (v := (-9 : Int32)) hx hb dX6_layPair_73 (by decide) ?_
      refine lv_icmp_eq (tgt := 89) hx hb dX6_layPair_75 (by decide) (fun cc_19 => ?_) (fun cc_19 => ?_)
      · have h := (if_pos cc_19).symm.trans h
        refine lv_iconst (v := (0 : Int32)) hx hb dX6_layPair_89 (by decide) ?_
        exact w90 x5 (0 : Int32) ((upd m_sums (Int32.toNatClampNeg s2) (s1 + s0)) (Int32.toNatClampNeg (2 : Int32))) (2 : Int32) m_w m_may m_least m_isCarried m_list m_nodes m_listMany m_went m_cost m_cause m_looks (upd m_sums (Int32.toNatClampNeg s2) (s1 + s0)) _ _ _ hP hD hS (lv_sub hl [0, 1] rfl) h
      · have h := (if_neg cc_19).symm.trans h
        refine lv_aload_n hx hb dX6_layPair_78 rfl (lv_at hl 0 rfl) ?_
        refine va_get (D := D) (ci := 6) (v := .int m_cause) (C := RX6) (T := TX6) (N := 29) hx hb hu k_iX6 hown hK hP 0 rfl rfl 15 (by decide) (hu _ u_733) (fun _ h9 => h9) rfl dX6_layPair_79 ?_
        refine lv_if_eq (tgt := 89) hx hb dX6_layPair_82 (by decide) (fun cc_20 => ?_) (fun cc_20 => ?_)
        · have h := (if_pos cc_20).symm.trans h
          refine lv_iconst (v := (0 : Int32)) hx hb dX6_layPair_89 (by decide) ?_
          exact w90 x5 (0 : Int32) ((upd m_sums (Int32.toNatClampNeg s2) (s1 + s0)) (Int32.toNatClampNeg (2 : Int32))) (2 : Int32) m_w m_may m_least m_isCarried m_list m_nodes m_listMany m_went m_cost m_cause m_looks (upd m_sums (Int32.toNatClampNeg s2) (s1 + s0)) _ _ _ hP hD hS (lv_sub hl [0, 1] rfl) h
        · have h := (if_neg cc_20).symm.trans h
          refine lv_iconst (v := (1 : Int32)) hx hb dX6_layPair_85 (by decide) ?_
          refine lv_goto (tgt := 90) hx hb dX6_layPair_86 (by decide) ?_
          exact w90 x5 (1 : Int32) ((upd m_sums (Int32.toNatClampNeg s2) (s1 + s0)) (Int32.toNatClampNeg (2 : Int32))) (2 : Int32) m_w m_may m_least m_isCarried m_list m_nodes m_listMany m_went m_cost m_cause m_looks (upd m_sums (Int32.toNatClampNeg s2) (s1 + s0)) _ _ _ hP hD hS (lv_sub hl [0, 1] rfl) h
    refine lv_istore (lv' := [(5, .int s0), (0, .ref qm), (1, .int x1), (2, .int x2), (3, .int x3), (4, .int x4)]) hx hb dX6_layPair_32 hl (by decide) rfl (fun ls hl => ?_)
    refine lv_aload_n hx hb dX6_layPair_34 rfl (lv_at hl 1 rfl) ?_
    refine lv_iload_n hx hb dX6_layPair_35 rfl (lv_at hl 2 rfl) ?_
    refine lv_iload_n hx hb dX6_layPair_36 rfl (lv_at hl 3 rfl) ?_
    refine lv_iload_n hx hb dX6_layPair_37 rfl (lv_at hl 4 rfl) ?_
    refine lv_iload hx hb dX6_layPair_38 (lv_at hl 5 rfl) ?_
    obtain ⟨⟨o_6, o_7, o_8, o_9, o_10, o_11, o_12, o_13, o_14, o_15⟩, hc_16, h⟩ := ob_bind h
    dsimp only at h
    refine k_callVV (qb := 0) [0, 1, 2, 3, 4, 5, 6] [0, 2, 3, 4, 5, 6] [0, 2, 3, 4, 5, 6] [(qm, .inr (6, [.ref qm_w, .ref qm_past, .int m_pastMany, .ref qm_images, .int m_filled, .ref qm_text, .int m_length, .ref qm_may, .ref qm_least, .ref qm_isCarried, .ref qm_list, .ref qm_nodes, .int o_11, .int o_12, .int o_13, .int o_14, .int o_15, .int m_isSent, .int m_isOld, .ref qm_kept, .ref qm_keptLow, .ref qm_keptHigh, .int m_keptMany, .ref qm_keptNodes, .ref qm_numbers, .ref qm_sums, .ref qm_commands, .int m_commandMany, .ref qm_held])), (qm_may, .inl (cZ, 18, .inl o_6)), (qm_least, .inl (cI, 9, .inl o_7)), (qm_isCarried, .inl (cZ, 18, .inl o_8)), (qm_list, .inl (cI, 18, .inl o_9)), (qm_nodes, .inl (cI, 41, .inl o_10))] (As := [.int x1, .int x2, .int x3, .int x4]) (rest := []) ⟨hx, hb, hml, hown, hts⟩ hT hZ hA hP hD hS (c_X6_runLetter l D cI cZ cN aK aV qm qm_w qm_past qm_images qm_text qm_may qm_least qm_isCarried qm_list qm_nodes qm_kept qm_keptLow qm_keptHigh qm_keptNodes qm_numbers qm_sums qm_commands qm_held m_w m_pastMany m_filled m_length m_may m_least m_isCarried m_list m_nodes m_listMany m_went m_cost m_cause m_looks m_isSent m_isOld m_keptMany m_commandMany x1 x2 x3 x4 o_6 o_7 o_8 o_9 o_10 o_11 o_12 o_13 o_14 o_15 hc_16) ⟨callB_of 4 hts (k_good u_937) rfl rfl rfl (hu _ u_51) (hu _ u_934) (by decide +kernel) ⟨Nat.le_of_ble_eq_true rfl, Nat.le_of_ble_eq_true rfl⟩, hu _ u_936, hu _ u_35⟩ rfl rfl rfl (by decide) (by decide) (by decide) rfl rfl rfl rfl hl.1 rfl (Nat.le_of_ble_eq_true rfl) dX6_layPair_40 (fun H locs hP hD hS => ?_)
    have hP : va_P D vwCl [(qm, .inr (6, [.ref qm_w, .ref qm_past, .int m_pastMany, .ref qm_images, .int m_filled, .ref qm_text, .int m_length, .ref qm_may, .ref qm_least, .ref qm_isCarried, .ref qm_list, .ref qm_nodes, .int o_11, .int o_12, .int o_13, .int o_14, .int o_15, .int m_isSent, .int m_isOld, .ref qm_kept, .ref qm_keptLow, .ref qm_keptHigh, .int m_keptMany, .ref qm_keptNodes, .ref qm_numbers, .ref qm_sums, .ref qm_commands, .int m_commandMany, .ref qm_held])), (qm_w, .inl (cI, 93, .inl m_w)), (qm_may, .inl (cZ, 18, .inl o_6)), (qm_least, .inl (cI, 9, .inl o_7)), (qm_isCarried, .inl (cZ, 18, .inl o_8)), (qm_list, .inl (cI, 18, .inl o_9)), (qm_nodes, .inl (cI, 41, .inl o_10)), (qm_sums, .inl (cI, 8, .inl m_sums))] H := hP
    have hD : va_D A [(qm, .inr (6, [.ref qm_w, .ref qm_past, .int m_pastMany, .ref qm_images, .int m_filled, .ref qm_text, .int m_length, .ref qm_may, .ref qm_least, .ref qm_isCarried, .ref qm_list, .ref qm_nodes, .int o_11, .int o_12, .int o_13, .int o_14, .int o_15, .int m_isSent, .int m_isOld, .ref qm_kept, .ref qm_keptLow, .ref qm_keptHigh, .int m_keptMany, .ref qm_keptNodes, .ref qm_numbers, .ref qm_sums, .ref qm_commands, .int m_commandMany, .ref qm_held])), (qm_w, .inl (cI, 93, .inl m_w)), (qm_may, .inl (cZ, 18, .inl o_6)), (qm_least, .inl (cI, 9, .inl o_7)), (qm_isCarried, .inl (cZ, 18, .inl o_8)), (qm_list, .inl (cI, 18, .inl o_9)), (qm_nodes, .inl (cI, 41, .inl o_10)), (qm_sums, .inl (cI, 8, .inl m_sums))] := hD
    refine lv_aload_n hx hb dX6_layPair_43 rfl (lv_at hl 1 rfl) ?_
    refine va_get (D := D) (ci := 6) (v := .ref qm_sums) (C := RX6) (T := TX6) (N := 29) hx hb hu k_iX6 hown hK hP 0 rfl rfl 25 (by decide) (hu _ u_743) (fun _ h9 => h9) rfl dX6_layPair_44 ?_
    refine lv_iconst (v := (0 : Int32)) hx hb dX6_layPair_47 (by decide) ?_
    refine lv_dup2_11 hx hb dX6_layPair_48 rfl rfl ?_
    refine va_iald (D := D) hx hb hK hP 7 0 rfl rfl (inb_in (by decide)) dX6_layPair_49 ?_
    refine lv_iload hx hb dX6_layPair_50 (lv_at hl 0 rfl) ?_
    refine lv_bipush (v := (-9 : Int32)) hx hb dX6_layPair_52 (by decide) ?_
    refine lv_icmp_eq (tgt := 61) hx hb dX6_layPair_54 (by decide) (fun cc_17 => ?_) (fun cc_17 => ?_)
    · have h := (if_pos cc_17).symm.trans h
      refine lv_iconst (v := (0 : Int32)) hx hb dX6_layPair_61 (by decide) ?_
      exact w62 s0 (0 : Int32) (m_sums (Int32.toNatClampNeg (0 : Int32))) (0 : Int32) m_w o_6 o_7 o_8 o_9 o_10 o_11 o_12 o_13 o_14 o_15 m_sums _ _ _ hP hD hS (lv_sub hl [1, 0] rfl) h
    · have h := (if_neg cc_17).symm.trans h
      refine lv_iconst (v := (1 : Int32)) hx hb dX6_layPair_57 (by decide) ?_
      refine lv_goto (tgt := 62) hx hb dX6_layPair_58 (by decide) ?_
      exact w62 s0 (1 : Int32) (m_sums (Int32.toNatClampNeg (0 : Int32))) (0 : Int32) m_w o_6 o_7 o_8 o_9 o_10 o_11 o_12 o_13 o_14 o_15 m_sums _ _ _ hP hD hS (lv_sub hl [1, 0] rfl) h
  refine lv_aload_n hx hb dX6_layPair_0 rfl (lv_at hl 0 rfl) ?_
  refine lv_iload_n hx hb dX6_layPair_1 rfl (lv_at hl 2 rfl) ?_
  refine lv_bipush (v := (-9 : Int32)) hx hb dX6_layPair_2 (by decide) ?_
  obtain ⟨⟨o_1, o_2⟩, hc_3, h⟩ := ob_bind h
  dsimp only at h
  refine k_callVV (qb := 0) [0, 1, 2, 3] [2, 3] [2, 3] [(qm_may, .inl (cZ, 18, .inl o_1)), (qm_least, .inl (cI, 9, .inl o_2))] (As := [.int p2, .int (-9 : Int32)]) (rest := []) ⟨hx, hb, hml, hown, hts⟩ hT hZ hA hP hD hS (c_X6_layTrue l D cI cZ cN aK aV qm qm_w qm_past qm_images qm_text qm_may qm_least qm_isCarried qm_list qm_nodes qm_kept qm_keptLow qm_keptHigh qm_keptNodes qm_numbers qm_sums qm_commands qm_held m_w m_pastMany m_filled m_length m_may m_least m_listMany m_went m_cost m_cause m_looks m_isSent m_isOld m_keptMany m_commandMany p2 (-9 : Int32) o_1 o_2 hc_3) ⟨callB_of 2 hts (k_good u_900) rfl rfl rfl (hu _ u_51) (hu _ u_897) (by decide +kernel) ⟨Nat.le_of_ble_eq_true rfl, Nat.le_of_ble_eq_true rfl⟩, hu _ u_899, hu _ u_30⟩ rfl rfl rfl (by decide) (by decide) (by decide) rfl rfl rfl rfl hl.1 rfl (Nat.le_of_ble_eq_true rfl) dX6_layPair_4 (fun H locs hP hD hS => ?_)
  have hP : va_P D vwCl [(qm, .inr (6, [.ref qm_w, .ref qm_past, .int m_pastMany, .ref qm_images, .int m_filled, .ref qm_text, .int m_length, .ref qm_may, .ref qm_least, .ref qm_isCarried, .ref qm_list, .ref qm_nodes, .int m_listMany, .int m_went, .int m_cost, .int m_cause, .int m_looks, .int m_isSent, .int m_isOld, .ref qm_kept, .ref qm_keptLow, .ref qm_keptHigh, .int m_keptMany, .ref qm_keptNodes, .ref qm_numbers, .ref qm_sums, .ref qm_commands, .int m_commandMany, .ref qm_held])), (qm_w, .inl (cI, 93, .inl m_w)), (qm_may, .inl (cZ, 18, .inl o_1)), (qm_least, .inl (cI, 9, .inl o_2)), (qm_isCarried, .inl (cZ, 18, .inl m_isCarried)), (qm_list, .inl (cI, 18, .inl m_list)), (qm_nodes, .inl (cI, 41, .inl m_nodes)), (qm_sums, .inl (cI, 8, .inl m_sums))] H := hP
  have hD : va_D A [(qm, .inr (6, [.ref qm_w, .ref qm_past, .int m_pastMany, .ref qm_images, .int m_filled, .ref qm_text, .int m_length, .ref qm_may, .ref qm_least, .ref qm_isCarried, .ref qm_list, .ref qm_nodes, .int m_listMany, .int m_went, .int m_cost, .int m_cause, .int m_looks, .int m_isSent, .int m_isOld, .ref qm_kept, .ref qm_keptLow, .ref qm_keptHigh, .int m_keptMany, .ref qm_keptNodes, .ref qm_numbers, .ref qm_sums, .ref qm_commands, .int m_commandMany, .ref qm_held])), (qm_w, .inl (cI, 93, .inl m_w)), (qm_may, .inl (cZ, 18, .inl o_1)), (qm_least, .inl (cI, 9, .inl o_2)), (qm_isCarried, .inl (cZ, 18, .inl m_isCarried)), (qm_list, .inl (cI, 18, .inl m_list)), (qm_nodes, .inl (cI, 41, .inl m_nodes)), (qm_sums, .inl (cI, 8, .inl m_sums))] := hD
  refine lv_aload_n hx hb dX6_layPair_7 rfl (lv_at hl 0 rfl) ?_
  refine va_get (D := D) (ci := 6) (v := .ref qm_least) (C := RX6) (T := TX6) (N := 29) hx hb hu k_iX6 hown hK hP 0 rfl rfl 8 (by decide) (hu _ u_726) (fun _ h9 => h9) rfl dX6_layPair_8 ?_
  refine lv_iload_n hx hb dX6_layPair_11 rfl (lv_at hl 1 rfl) ?_
  obtain ⟨hin_4, h⟩ := ob_if h
  have hin_4 := inb_in hin_4
  refine va_iald (D := D) hx hb hK hP 3 0 rfl rfl hin_4 dX6_layPair_12 ?_
  refine lv_ldc (v := (1000000 : Int32)) hx hb hown (hu _ u_905) dX6_layPair_13 ?_
  refine lv_icmp_ne (tgt := 23) hx hb dX6_layPair_15 (by decide) (fun cc_5 => ?_) (fun cc_5 => ?_)
  · have h := (if_neg cc_5).symm.trans h
    refine lv_aload_n hx hb dX6_layPair_23 rfl (lv_at hl 0 rfl) ?_
    refine va_get (D := D) (ci := 6) (v := .ref qm_least) (C := RX6) (T := TX6) (N := 29) hx hb hu k_iX6 hown hK hP 0 rfl rfl 8 (by decide) (hu _ u_726) (fun _ h9 => h9) rfl dX6_layPair_24 ?_
    refine lv_iload_n hx hb dX6_layPair_27 rfl (lv_at hl 1 rfl) ?_
    refine va_iald (D := D) hx hb hK hP 3 0 rfl rfl hin_4 dX6_layPair_28 ?_
    refine lv_bipush (v := (16 : Int32)) hx hb dX6_layPair_29 (by decide) ?_
    refine lv_idiv hx hb dX6_layPair_31 (by decide) ?_
    exact w32 p1 p2 p3 p4 ((o_2 (Int32.toNatClampNeg p1)) / (16 : Int32)) m_w o_1 o_2 m_isCarried m_list m_nodes m_listMany m_went m_cost m_cause m_looks m_sums _ _ _ hP hD hS (lv_sub hl [0, 1, 2, 3, 4] rfl) h
  · have h := (if_pos cc_5).symm.trans h
    refine lv_bipush (v := (-9 : Int32)) hx hb dX6_layPair_18 (by decide) ?_
    refine lv_goto (tgt := 32) hx hb dX6_layPair_20 (by decide) ?_
    exact w32 p1 p2 p3 p4 (-9 : Int32) m_w o_1 o_2 m_isCarried m_list m_nodes m_listMany m_went m_cost m_cause m_looks m_sums _ _ _ hP hD hS (lv_sub hl [0, 1, 2, 3, 4] rfl) h
def f_X6_layAll_b36 (k23 : Int32 → Int32 → Int32 → (Nat → Int32) → (Nat → Int32) → (Nat → Int32) → (Nat → Int32) → (Nat → Int32) → (Nat → Int32) → Int32 → Int32 → Int32 → Int32 → Int32 → (Nat → Int32) → Option ((Nat → Int32) × (Nat → Int32) × (Nat → Int32) × (Nat → Int32) × (Nat → Int32) × Int32 × Int32 × Int32 × Int32 × Int32 × (Nat → Int32))) : Nat → Int32 → Int32 → Int32 → Int32 → (Nat → Int32) → (Nat → Int32) → (Nat → Int32) → (Nat → Int32) → (Nat → Int32) → (Nat → Int32) → Int32 → Int32 → Int32 → Int32 → Int32 → (Nat → Int32) → Option ((Nat → Int32) × (Nat → Int32) × (Nat → Int32) × (Nat → Int32) × (Nat → Int32) × Int32 × Int32 × Int32 × Int32 × Int32 × (Nat → Int32))
  | 0, _, _, _, _, _, _, _, _, _, _, _, _, _, _, _, _ => none
  | n + 1, x1, x2, x3, x4, m_w, m_may, m_least, m_isCarried, m_list, m_nodes, m_listMany, m_went, m_cost, m_cause, m_looks, m_sums =>
    if (m_w (Int32.toNatClampNeg (0 : Int32))) ≤ x4 then
      k23 x1 x2 (x3 + (1 : Int32)) m_w m_may m_least m_isCarried m_list m_nodes m_listMany m_went m_cost m_cause m_looks m_sums
    else
      if x3 = x4 then
        (f_X6_layAll_b36 k23 n) x1 x2 x3 (x4 + (1 : Int32)) m_w m_may m_least m_isCarried m_list m_nodes m_listMany m_went m_cost m_cause m_looks m_sums
      else
        (f_X6_layPair x3 x4 x1 x2 m_w m_may m_least m_isCarried m_list m_nodes m_listMany m_went m_cost m_cause m_looks m_sums).bind fun ⟨o_6, o_7, o_8, o_9, o_10, o_11, o_12, o_13, o_14, o_15, o_16⟩ =>
        (f_X6_layAll_b36 k23 n) x1 x2 x3 (x4 + (1 : Int32)) m_w o_6 o_7 o_8 o_9 o_10 o_11 o_12 o_13 o_14 o_15 o_16
def f_X6_layAll_b23  : Nat → Int32 → Int32 → Int32 → (Nat → Int32) → (Nat → Int32) → (Nat → Int32) → (Nat → Int32) → (Nat → Int32) → (Nat → Int32) → Int32 → Int32 → Int32 → Int32 → Int32 → (Nat → Int32) → Option ((Nat → Int32) × (Nat → Int32) × (Nat → Int32) × (Nat → Int32) × (Nat → Int32) × Int32 × Int32 × Int32 × Int32 × Int32 × (Nat → Int32))
  | 0, _, _, _, _, _, _, _, _, _, _, _, _, _, _, _ => none
  | n + 1, x1, x2, x3, m_w, m_may, m_least, m_isCarried, m_list, m_nodes, m_listMany, m_went, m_cost, m_cause, m_looks, m_sums =>
    if (m_w (Int32.toNatClampNeg (0 : Int32))) ≤ x3 then
      some (m_may, m_least, m_isCarried, m_list, m_nodes, m_listMany, m_went, m_cost, m_cause, m_looks, m_sums)
    else
      f_X6_layAll_b36 (f_X6_layAll_b23 n) 1000 x1 x2 x3 (0 : Int32) m_w m_may m_least m_isCarried m_list m_nodes m_listMany m_went m_cost m_cause m_looks m_sums
def f_X6_layAll_b2  : Nat → Int32 → Int32 → Int32 → (Nat → Int32) → (Nat → Int32) → (Nat → Int32) → (Nat → Int32) → (Nat → Int32) → (Nat → Int32) → Int32 → Int32 → Int32 → Int32 → Int32 → (Nat → Int32) → Option ((Nat → Int32) × (Nat → Int32) × (Nat → Int32) × (Nat → Int32) × (Nat → Int32) × Int32 × Int32 × Int32 × Int32 × Int32 × (Nat → Int32))
  | 0, _, _, _, _, _, _, _, _, _, _, _, _, _, _, _ => none
  | n + 1, x1, x2, x3, m_w, m_may, m_least, m_isCarried, m_list, m_nodes, m_listMany, m_went, m_cost, m_cause, m_looks, m_sums =>
    if (8 : Int32) ≤ x3 then
      f_X6_layAll_b23 1000 x1 x2 (0 : Int32) m_w m_may m_least m_isCarried m_list m_nodes m_listMany m_went m_cost m_cause m_looks m_sums
    else
      if inb x3 8 = true then
      (f_X6_layAll_b2 n) x1 x2 (x3 + (1 : Int32)) m_w m_may m_least m_isCarried m_list m_nodes m_listMany m_went m_cost m_cause m_looks (upd m_sums (Int32.toNatClampNeg x3) (0 : Int32))
      else none
def f_X6_layAll (p1 : Int32) (p2 : Int32) (m_w : (Nat → Int32)) (m_may : (Nat → Int32)) (m_least : (Nat → Int32)) (m_isCarried : (Nat → Int32)) (m_list : (Nat → Int32)) (m_nodes : (Nat → Int32)) (m_listMany : Int32) (m_went : Int32) (m_cost : Int32) (m_cause : Int32) (m_looks : Int32) (m_sums : (Nat → Int32)) : Option ((Nat → Int32) × (Nat → Int32) × (Nat → Int32) × (Nat → Int32) × (Nat → Int32) × Int32 × Int32 × Int32 × Int32 × Int32 × (Nat → Int32)) :=
  f_X6_layAll_b2 1000 p1 p2 (0 : Int32) m_w m_may m_least m_isCarried m_list m_nodes m_listMany m_went m_cost m_cause m_looks m_sums
set_option maxHeartbeats 4000000 in
set_option maxRecDepth 100000 in
theorem c_X6_layAll (l : Launch) (D : va_G) (cI cZ cN : ClassId) (aK aV : Nat → Nat)  (qm : Nat) (qm_w : Nat) (qm_past : Nat) (qm_images : Nat) (qm_text : Nat) (qm_may : Nat) (qm_least : Nat) (qm_isCarried : Nat) (qm_list : Nat) (qm_nodes : Nat) (qm_kept : Nat) (qm_keptLow : Nat) (qm_keptHigh : Nat) (qm_keptNodes : Nat) (qm_numbers : Nat) (qm_sums : Nat) (qm_commands : Nat) (qm_held : Nat) (m_w : (Nat → Int32)) (m_pastMany : Int32) (m_filled : Int32) (m_length : Int32) (m_may : (Nat → Int32)) (m_least : (Nat → Int32)) (m_isCarried : (Nat → Int32)) (m_list : (Nat → Int32)) (m_nodes : (Nat → Int32)) (m_listMany : Int32) (m_went : Int32) (m_cost : Int32) (m_cause : Int32) (m_looks : Int32) (m_isSent : Int32) (m_isOld : Int32) (m_keptMany : Int32) (m_sums : (Nat → Int32)) (m_commandMany : Int32) (p1 p2 : Int32) (z_m_may : (Nat → Int32)) (z_m_least : (Nat → Int32)) (z_m_isCarried : (Nat → Int32)) (z_m_list : (Nat → Int32)) (z_m_nodes : (Nat → Int32)) (z_m_listMany : Int32) (z_m_went : Int32) (z_m_cost : Int32) (z_m_cause : Int32) (z_m_looks : Int32) (z_m_sums : (Nat → Int32)) (h : f_X6_layAll p1 p2 m_w m_may m_least m_isCarried m_list m_nodes m_listMany m_went m_cost m_cause m_looks m_sums = some (z_m_may, z_m_least, z_m_isCarried, z_m_list, z_m_nodes, z_m_listMany, z_m_went, z_m_cost, z_m_cause, z_m_looks, z_m_sums)) : CtV l D cI cZ cN aK aV yX6_layAll (k_W yX6_layAll cX6_layAll 5 none) { frames := 6, cells := 0, slots := 0, locals := 144 } [.ref qm, .int p1, .int p2] [(qm, .inr (6, [.ref qm_w, .ref qm_past, .int m_pastMany, .ref qm_images, .int m_filled, .ref qm_text, .int m_length, .ref qm_may, .ref qm_least, .ref qm_isCarried, .ref qm_list, .ref qm_nodes, .int m_listMany, .int m_went, .int m_cost, .int m_cause, .int m_looks, .int m_isSent, .int m_isOld, .ref qm_kept, .ref qm_keptLow, .ref qm_keptHigh, .int m_keptMany, .ref qm_keptNodes, .ref qm_numbers, .ref qm_sums, .ref qm_commands, .int m_commandMany, .ref qm_held])), (qm_w, .inl (cI, 93, .inl m_w)), (qm_may, .inl (cZ, 18, .inl m_may)), (qm_least, .inl (cI, 9, .inl m_least)), (qm_isCarried, .inl (cZ, 18, .inl m_isCarried)), (qm_list, .inl (cI, 18, .inl m_list)), (qm_nodes, .inl (cI, 41, .inl m_nodes)), (qm_sums, .inl (cI, 8, .inl m_sums))] [(qm, .inr (6, [.ref qm_w, .ref qm_past, .int m_pastMany, .ref qm_images, .int m_filled, .ref qm_text, .int m_length, .ref qm_may, .ref qm_least, .ref qm_isCarried, .ref qm_list, .ref qm_nodes, .int z_m_listMany, .int z_m_went, .int z_m_cost, .int z_m_cause, .int z_m_looks, .int m_isSent, .int m_isOld, .ref qm_kept, .ref qm_keptLow, .ref qm_keptHigh, .int m_keptMany, .ref qm_keptNodes, .ref qm_numbers, .ref qm_sums, .ref qm_commands, .int m_commandMany, .ref qm_held])), (qm_w, .inl (cI, 93, .inl m_w)), (qm_may, .inl (cZ, 18, .inl z_m_may)), (qm_least, .inl (cI, 9, .inl z_m_least)), (qm_isCarried, .inl (cZ, 18, .inl z_m_isCarried)), (qm_list, .inl (cI, 18, .inl z_m_list)), (qm_nodes, .inl (cI, 41, .inl z_m_nodes)), (qm_sums, .inl (cI, 8, .inl z_m_sums))] := by
  refine k_startV (by decide) (Nat.le_of_ble_eq_true rfl) ?_
  intro p e s m below meth c A ls hx hb hr hml hown hts hlocks hT hZ hA hP hD hS hl
  have hK := hT.1
  have hu : ∀ w ∈ k_U, w.before ([.ref qm, .int p1, .int p2] : List Value).toArray s = true := fun w h => hts w (List.mem_cons_of_mem _ h)
  have hown : s.vm.findClass RX6 = some m.cls := hown
  have hl : lv_has ls 5 [(0, .ref qm), (1, .int p1), (2, .int p2)] := hl
  unfold f_X6_layAll at h
  have w2 : ∀ (n2 : Nat) (x1 : Int32) (x2 : Int32) (x3 : Int32) (m_w : (Nat → Int32)) (m_may : (Nat → Int32)) (m_least : (Nat → Int32)) (m_isCarried : (Nat → Int32)) (m_list : (Nat → Int32)) (m_nodes : (Nat → Int32)) (m_listMany : Int32) (m_went : Int32) (m_cost : Int32) (m_cause : Int32) (m_looks : Int32) (m_sums : (Nat → Int32)) (H : Heap) (locs : List Loc) (ls : Array Slot), va_P D vwCl [(qm, .inr (6, [.ref qm_w, .ref qm_past, .int m_pastMany, .ref qm_images, .int m_filled, .ref qm_text, .int m_length, .ref qm_may, .ref qm_least, .ref qm_isCarried, .ref qm_list, .ref qm_nodes, .int m_listMany, .int m_went, .int m_cost, .int m_cause, .int m_looks, .int m_isSent, .int m_isOld, .ref qm_kept, .ref qm_keptLow, .ref qm_keptHigh, .int m_keptMany, .ref qm_keptNodes, .ref qm_numbers, .ref qm_sums, .ref qm_commands, .int m_commandMany, .ref qm_held])), (qm_w, .inl (cI, 93, .inl m_w)), (qm_may, .inl (cZ, 18, .inl m_may)), (qm_least, .inl (cI, 9, .inl m_least)), (qm_isCarried, .inl (cZ, 18, .inl m_isCarried)), (qm_list, .inl (cI, 18, .inl m_list)), (qm_nodes, .inl (cI, 41, .inl m_nodes)), (qm_sums, .inl (cI, 8, .inl m_sums))] H → va_D A [(qm, .inr (6, [.ref qm_w, .ref qm_past, .int m_pastMany, .ref qm_images, .int m_filled, .ref qm_text, .int m_length, .ref qm_may, .ref qm_least, .ref qm_isCarried, .ref qm_list, .ref qm_nodes, .int m_listMany, .int m_went, .int m_cost, .int m_cause, .int m_looks, .int m_isSent, .int m_isOld, .ref qm_kept, .ref qm_keptLow, .ref qm_keptHigh, .int m_keptMany, .ref qm_keptNodes, .ref qm_numbers, .ref qm_sums, .ref qm_commands, .int m_commandMany, .ref qm_held])), (qm_w, .inl (cI, 93, .inl m_w)), (qm_may, .inl (cZ, 18, .inl m_may)), (qm_least, .inl (cI, 9, .inl m_least)), (qm_isCarried, .inl (cZ, 18, .inl m_isCarried)), (qm_list, .inl (cI, 18, .inl m_list)), (qm_nodes, .inl (cI, 41, .inl m_nodes)), (qm_sums, .inl (cI, 8, .inl m_sums))] → va_S A s.heap H locs → lv_has ls 5 [(0, .ref qm), (1, .int x1), (2, .int x2), (3, .int x3)] → f_X6_layAll_b2 n2 x1 x2 x3 m_w m_may m_least m_isCarried m_list m_nodes m_listMany m_went m_cost m_cause m_looks m_sums = some (z_m_may, z_m_least, z_m_isCarried, z_m_list, z_m_nodes, z_m_listMany, z_m_went, z_m_cost, z_m_cause, z_m_looks, z_m_sums) → W p l e { frames := 6, cells := 0, slots := 0, locals := 144 } s m ([.ref qm, .int p1, .int p2] : List Value).toArray below meth c H locs 0 0 (MQ below (k_QV D [(qm, .inr (6, [.ref qm_w, .ref qm_past, .int m_pastMany, .ref qm_images, .int m_filled, .ref qm_text, .int m_length, .ref qm_may, .ref qm_least, .ref qm_isCarried, .ref qm_list, .ref qm_nodes, .int z_m_listMany, .int z_m_went, .int z_m_cost, .int z_m_cause, .int z_m_looks, .int m_isSent, .int m_isOld, .ref qm_kept, .ref qm_keptLow, .ref qm_keptHigh, .int m_keptMany, .ref qm_keptNodes, .ref qm_numbers, .ref qm_sums, .ref qm_commands, .int m_commandMany, .ref qm_held])), (qm_w, .inl (cI, 93, .inl m_w)), (qm_may, .inl (cZ, 18, .inl z_m_may)), (qm_least, .inl (cI, 9, .inl z_m_least)), (qm_isCarried, .inl (cZ, 18, .inl z_m_isCarried)), (qm_list, .inl (cI, 18, .inl z_m_list)), (qm_nodes, .inl (cI, 41, .inl z_m_nodes)), (qm_sums, .inl (cI, 8, .inl z_m_sums))] A) ([.ref qm, .int p1, .int p2] : List Value).toArray s 0 0 A) (F0 m 2 ls []) := by
    intro n2
    induction n2 with
    | zero =>
      intro x1 x2 x3 m_w m_may m_least m_isCarried m_list m_nodes m_listMany m_went m_cost m_cause m_looks m_sums H locs ls hP hD hS hl h
      rw [f_X6_layAll_b2] at h
      cases h
    | succ n2 ih2 =>
      intro x1 x2 x3 m_w m_may m_least m_isCarried m_list m_nodes m_listMany m_went m_cost m_cause m_looks m_sums H locs ls hP hD hS hl h
      rw [f_X6_layAll_b2] at h
      have w23 : ∀ (n23 : Nat) (x1 : Int32) (x2 : Int32) (x3 : Int32) (m_w : (Nat → Int32)) (m_may : (Nat → Int32)) (m_least : (Nat → Int32)) (m_isCarried : (Nat → Int32)) (m_list : (Nat → Int32)) (m_nodes : (Nat → Int32)) (m_listMany : Int32) (m_went : Int32) (m_cost : Int32) (m_cause : Int32) (m_looks : Int32) (m_sums : (Nat → Int32)) (H : Heap) (locs : List Loc) (ls : Array Slot), va_P D vwCl [(qm, .inr (6, [.ref qm_w, .ref qm_past, .int m_pastMany, .ref qm_images, .int m_filled, .ref qm_text, .int m_length, .ref qm_may, .ref qm_least, .ref qm_isCarried, .ref qm_list, .ref qm_nodes, .int m_listMany, .int m_went, .int m_cost, .int m_cause, .int m_looks, .int m_isSent, .int m_isOld, .ref qm_kept, .ref qm_keptLow, .ref qm_keptHigh, .int m_keptMany, .ref qm_keptNodes, .ref qm_numbers, .ref qm_sums, .ref qm_commands, .int m_commandMany, .ref qm_held])), (qm_w, .inl (cI, 93, .inl m_w)), (qm_may, .inl (cZ, 18, .inl m_may)), (qm_least, .inl (cI, 9, .inl m_least)), (qm_isCarried, .inl (cZ, 18, .inl m_isCarried)), (qm_list, .inl (cI, 18, .inl m_list)), (qm_nodes, .inl (cI, 41, .inl m_nodes)), (qm_sums, .inl (cI, 8, .inl m_sums))] H → va_D A [(qm, .inr (6, [.ref qm_w, .ref qm_past, .int m_pastMany, .ref qm_images, .int m_filled, .ref qm_text, .int m_length, .ref qm_may, .ref qm_least, .ref qm_isCarried, .ref qm_list, .ref qm_nodes, .int m_listMany, .int m_went, .int m_cost, .int m_cause, .int m_looks, .int m_isSent, .int m_isOld, .ref qm_kept, .ref qm_keptLow, .ref qm_keptHigh, .int m_keptMany, .ref qm_keptNodes, .ref qm_numbers, .ref qm_sums, .ref qm_commands, .int m_commandMany, .ref qm_held])), (qm_w, .inl (cI, 93, .inl m_w)), (qm_may, .inl (cZ, 18, .inl m_may)), (qm_least, .inl (cI, 9, .inl m_least)), (qm_isCarried, .inl (cZ, 18, .inl m_isCarried)), (qm_list, .inl (cI, 18, .inl m_list)), (qm_nodes, .inl (cI, 41, .inl m_nodes)), (qm_sums, .inl (cI, 8, .inl m_sums))] → va_S A s.heap H locs → lv_has ls 5 [(0, .ref qm), (1, .int x1), (2, .int x2), (3, .int x3)] → f_X6_layAll_b23 n23 x1 x2 x3 m_w m_may m_least m_isCarried m_list m_nodes m_listMany m_went m_cost m_cause m_looks m_sums = some (z_m_may, z_m_least, z_m_isCarried, z_m_list, z_m_nodes, z_m_listMany, z_m_went, z_m_cost, z_m_cause, z_m_looks, z_m_sums) → W p l e { frames := 6, cells := 0, slots := 0, locals := 144 } s m ([.ref qm, .int p1, .int p2] : List Value).toArray below meth c H locs 0 0 (MQ below (k_QV D [(qm, .inr (6, [.ref qm_w, .ref qm_past, .int m_pastMany, .ref qm_images, .int m_filled, .ref qm_text, .int m_length, .ref qm_may, .ref qm_least, .ref qm_isCarried, .ref qm_list, .ref qm_nodes, .int z_m_listMany, .int z_m_went, .int z_m_cost, .int z_m_cause, .int z_m_looks, .int m_isSent, .int m_isOld, .ref qm_kept, .ref qm_keptLow, .ref qm_keptHigh, .int m_keptMany, .ref qm_keptNodes, .ref qm_numbers, .ref qm_sums, .ref qm_commands, .int m_commandMany, .ref qm_held])), (qm_w, .inl (cI, 93, .inl m_w)), (qm_may, .inl (cZ, 18, .inl z_m_may)), (qm_least, .inl (cI, 9, .inl z_m_least)), (qm_isCarried, .inl (cZ, 18, .inl z_m_isCarried)), (qm_list, .inl (cI, 18, .inl z_m_list)), (qm_nodes, .inl (cI, 41, .inl z_m_nodes)), (qm_sums, .inl (cI, 8, .inl z_m_sums))] A) ([.ref qm, .int p1, .int p2] : List Value).toArray s 0 0 A) (F0 m 23 ls []) := by
        intro n23
        induction n23 with
        | zero =>
          intro x1 x2 x3 m_w m_may m_least m_isCarried m_list m_nodes m_listMany m_went m_cost m_cause m_looks m_sums H locs ls hP hD hS hl h
          rw [f_X6_layAll_b23] at h
          cases h
        | succ n23 ih23 =>
          intro x1 x2 x3 m_w m_may m_least m_isCarried m_list m_nodes m_listMany m_went m_cost m_cause m_looks m_sums H locs ls hP hD hS hl h
          rw [f_X6_layAll_b23] at h
          have w36 : ∀ (n36 : Nat) (x1 : Int32) (x2 : Int32) (x3 : Int32) (x4 : Int32) (m_w : (Nat → Int32)) (m_may : (Nat → Int32)) (m_least : (Nat → Int32)) (m_isCarried : (Nat → Int32)) (m_list : (Nat → Int32)) (m_nodes : (Nat → Int32)) (m_listMany : Int32) (m_went : Int32) (m_cost : Int32) (m_cause : Int32) (m_looks : Int32) (m_sums : (Nat → Int32)) (H : Heap) (locs : List Loc) (ls : Array Slot), va_P D vwCl [(qm, .inr (6, [.ref qm_w, .ref qm_past, .int m_pastMany, .ref qm_images, .int m_filled, .ref qm_text, .int m_length, .ref qm_may, .ref qm_least, .ref qm_isCarried, .ref qm_list, .ref qm_nodes, .int m_listMany, .int m_went, .int m_cost, .int m_cause, .int m_looks, .int m_isSent, .int m_isOld, .ref qm_kept, .ref qm_keptLow, .ref qm_keptHigh, .int m_keptMany, .ref qm_keptNodes, .ref qm_numbers, .ref qm_sums, .ref qm_commands, .int m_commandMany, .ref qm_held])), (qm_w, .inl (cI, 93, .inl m_w)), (qm_may, .inl (cZ, 18, .inl m_may)), (qm_least, .inl (cI, 9, .inl m_least)), (qm_isCarried, .inl (cZ, 18, .inl m_isCarried)), (qm_list, .inl (cI, 18, .inl m_list)), (qm_nodes, .inl (cI, 41, .inl m_nodes)), (qm_sums, .inl (cI, 8, .inl m_sums))] H → va_D A [(qm, .inr (6, [.ref qm_w, .ref qm_past, .int m_pastMany, .ref qm_images, .int m_filled, .ref qm_text, .int m_length, .ref qm_may, .ref qm_least, .ref qm_isCarried, .ref qm_list, .ref qm_nodes, .int m_listMany, .int m_went, .int m_cost, .int m_cause, .int m_looks, .int m_isSent, .int m_isOld, .ref qm_kept, .ref qm_keptLow, .ref qm_keptHigh, .int m_keptMany, .ref qm_keptNodes, .ref qm_numbers, .ref qm_sums, .ref qm_commands, .int m_commandMany, .ref qm_held])), (qm_w, .inl (cI, 93, .inl m_w)), (qm_may, .inl (cZ, 18, .inl m_may)), (qm_least, .inl (cI, 9, .inl m_least)), (qm_isCarried, .inl (cZ, 18, .inl m_isCarried)), (qm_list, .inl (cI, 18, .inl m_list)), (qm_nodes, .inl (cI, 41, .inl m_nodes)), (qm_sums, .inl (cI, 8, .inl m_sums))] → va_S A s.heap H locs → lv_has ls 5 [(0, .ref qm), (1, .int x1), (2, .int x2), (3, .int x3), (4, .int x4)] → f_X6_layAll_b36 (f_X6_layAll_b23 n23) n36 x1 x2 x3 x4 m_w m_may m_least m_isCarried m_list m_nodes m_listMany m_went m_cost m_cause m_looks m_sums = some (z_m_may, z_m_least, z_m_isCarried, z_m_list, z_m_nodes, z_m_listMany, z_m_went, z_m_cost, z_m_cause, z_m_looks, z_m_sums) → W p l e { frames := 6, cells := 0, slots := 0, locals := 144 } s m ([.ref qm, .int p1, .int p2] : List Value).toArray below meth c H locs 0 0 (MQ below (k_QV D [(qm, .inr (6, [.ref qm_w, .ref qm_past, .int m_pastMany, .ref qm_images, .int m_filled, .ref qm_text, .int m_length, .ref qm_may, .ref qm_least, .ref qm_isCarried, .ref qm_list, .ref qm_nodes, .int z_m_listMany, .int z_m_went, .int z_m_cost, .int z_m_cause, .int z_m_looks, .int m_isSent, .int m_isOld, .ref qm_kept, .ref qm_keptLow, .ref qm_keptHigh, .int m_keptMany, .ref qm_keptNodes, .ref qm_numbers, .ref qm_sums, .ref qm_commands, .int m_commandMany, .ref qm_held])), (qm_w, .inl (cI, 93, .inl m_w)), (qm_may, .inl (cZ, 18, .inl z_m_may)), (qm_least, .inl (cI, 9, .inl z_m_least)), (qm_isCarried, .inl (cZ, 18, .inl z_m_isCarried)), (qm_list, .inl (cI, 18, .inl z_m_list)), (qm_nodes, .inl (cI, 41, .inl z_m_nodes)), (qm_sums, .inl (cI, 8, .inl z_m_sums))] A) ([.ref qm, .int p1, .int p2] : List Value).toArray s 0 0 A) (F0 m 36 ls []) := by
            intro n36
            induction n36 with
            | zero =>
              intro x1 x2 x3 x4 m_w m_may m_least m_isCarried m_list m_nodes m_listMany m_went m_cost m_cause m_looks m_sums H locs ls hP hD hS hl h
              rw [f_X6_layAll_b36] at h
              cases h
            | succ n36 ih36 =>
              intro x1 x2 x3 x4 m_w m_may m_least m_isCarried m_list m_nodes m_listMany m_went m_cost m_cause m_looks m_sums H locs ls hP hD hS hl h
              rw [f_X6_layAll_b36] at h
              refine lv_iload hx hb dX6_layAll_36 (lv_at hl 4 rfl) ?_
              refine lv_aload_n hx hb dX6_layAll_38 rfl (lv_at hl 0 rfl) ?_
              refine va_get (D := D) (ci := 6) (v := .ref qm_w) (C := RX6) (T := TX6) (N := 29) hx hb hu k_iX6 hown hK hP 0 rfl rfl 0 (by decide) (hu _ u_718) (fun _ h9 => h9) rfl dX6_layAll_39 ?_
              refine lv_iconst (v := (0 : Int32)) hx hb dX6_layAll_42 (by decide) ?_
              refine va_iald (D := D) hx hb hK hP 1 0 rfl rfl (inb_in (by decide)) dX6_layAll_43 ?_
              refine lv_icmp_ge (tgt := 68) hx hb dX6_layAll_44 (by decide) (fun cc_4 => ?_) (fun cc_4 => ?_)
              · have h := (if_pos cc_4).symm.trans h
                refine lv_iinc (v := (x3 + (1 : Int32))) (lv' := [(3, .int (x3 + (1 : Int32))), (0, .ref qm), (1, .int x1), (2, .int x2), (4, .int x4)]) hx hb dX6_layAll_68 hl (k := 3) rfl rfl (by decide) rfl (fun ls hl => ?_)
                refine lv_goto (tgt := 23) hx hb dX6_layAll_71 (by decide) ?_
                exact ih23 x1 x2 (x3 + (1 : Int32)) m_w m_may m_least m_isCarried m_list m_nodes m_listMany m_went m_cost m_cause m_looks m_sums _ _ _ hP hD hS (lv_sub hl [1, 2, 3, 0] rfl) h
              · have h := (if_neg cc_4).symm.trans h
                refine lv_iload_n hx hb dX6_layAll_47 rfl (lv_at hl 3 rfl) ?_
                refine lv_iload hx hb dX6_layAll_48 (lv_at hl 4 rfl) ?_
                refine lv_icmp_eq (tgt := 62) hx hb dX6_layAll_50 (by decide) (fun cc_5 => ?_) (fun cc_5 => ?_)
                · have h := (if_pos cc_5).symm.trans h
                  refine lv_iinc (v := (x4 + (1 : Int32))) (lv' := [(4, .int (x4 + (1 : Int32))), (0, .ref qm), (1, .int x1), (2, .int x2), (3, .int x3)]) hx hb dX6_layAll_62 hl (k := 4) rfl rfl (by decide) rfl (fun ls hl => ?_)
                  refine lv_goto (tgt := 36) hx hb dX6_layAll_65 (by decide) ?_
                  exact ih36 x1 x2 x3 (x4 + (1 : Int32)) m_w m_may m_least m_isCarried m_list m_nodes m_listMany m_went m_cost m_cause m_looks m_sums _ _ _ hP hD hS (lv_sub hl [1, 2, 3, 4, 0] rfl) h
                · have h := (if_neg cc_5).symm.trans h
                  refine lv_aload_n hx hb dX6_layAll_53 rfl (lv_at hl 0 rfl) ?_
                  refine lv_iload_n hx hb dX6_layAll_54 rfl (lv_at hl 3 rfl) ?_
                  refine lv_iload hx hb dX6_layAll_55 (lv_at hl 4 rfl) ?_
                  refine lv_iload_n hx hb dX6_layAll_57 rfl (lv_at hl 1 rfl) ?_
                  refine lv_iload_n hx hb dX6_layAll_58 rfl (lv_at hl 2 rfl) ?_
                  obtain ⟨⟨o_6, o_7, o_8, o_9, o_10, o_11, o_12, o_13, o_14, o_15, o_16⟩, hc_17, h⟩ := ob_bind h
                  dsimp only at h
                  refine k_callVV (qb := 0) [0, 1, 2, 3, 4, 5, 6, 7] [0, 2, 3, 4, 5, 6, 7] [0, 2, 3, 4, 5, 6, 7] [(qm, .inr (6, [.ref qm_w, .ref qm_past, .int m_pastMany, .ref qm_images, .int m_filled, .ref qm_text, .int m_length, .ref qm_may, .ref qm_least, .ref qm_isCarried, .ref qm_list, .ref qm_nodes, .int o_11, .int o_12, .int o_13, .int o_14, .int o_15, .int m_isSent, .int m_isOld, .ref qm_kept, .ref qm_keptLow, .ref qm_keptHigh, .int m_keptMany, .ref qm_keptNodes, .ref qm_numbers, .ref qm_sums, .ref qm_commands, .int m_commandMany, .ref qm_held])), (qm_may, .inl (cZ, 18, .inl o_6)), (qm_least, .inl (cI, 9, .inl o_7)), (qm_isCarried, .inl (cZ, 18, .inl o_8)), (qm_list, .inl (cI, 18, .inl o_9)), (qm_nodes, .inl (cI, 41, .inl o_10)), (qm_sums, .inl (cI, 8, .inl o_16))] (As := [.int x3, .int x4, .int x1, .int x2]) (rest := []) ⟨hx, hb, hml, hown, hts⟩ hT hZ hA hP hD hS (c_X6_layPair l D cI cZ cN aK aV qm qm_w qm_past qm_images qm_text qm_may qm_least qm_isCarried qm_list qm_nodes qm_kept qm_keptLow qm_keptHigh qm_keptNodes qm_numbers qm_sums qm_commands qm_held m_w m_pastMany m_filled m_length m_may m_least m_isCarried m_list m_nodes m_listMany m_went m_cost m_cause m_looks m_isSent m_isOld m_keptMany m_sums m_commandMany x3 x4 x1 x2 o_6 o_7 o_8 o_9 o_10 o_11 o_12 o_13 o_14 o_15 o_16 hc_17) ⟨callB_of 4 hts (k_good u_965) rfl rfl rfl (hu _ u_51) (hu _ u_962) (by decide +kernel) ⟨Nat.le_of_ble_eq_true rfl, Nat.le_of_ble_eq_true rfl⟩, hu _ u_964, hu _ u_38⟩ rfl rfl rfl (by decide) (by decide) (by decide) rfl rfl rfl rfl hl.1 rfl (Nat.le_of_ble_eq_true rfl) dX6_layAll_59 (fun H locs hP hD hS => ?_)
                  have hP : va_P D vwCl [(qm, .inr (6, [.ref qm_w, .ref qm_past, .int m_pastMany, .ref qm_images, .int m_filled, .ref qm_text, .int m_length, .ref qm_may, .ref qm_least, .ref qm_isCarried, .ref qm_list, .ref qm_nodes, .int o_11, .int o_12, .int o_13, .int o_14, .int o_15, .int m_isSent, .int m_isOld, .ref qm_kept, .ref qm_keptLow, .ref qm_keptHigh, .int m_keptMany, .ref qm_keptNodes, .ref qm_numbers, .ref qm_sums, .ref qm_commands, .int m_commandMany, .ref qm_held])), (qm_w, .inl (cI, 93, .inl m_w)), (qm_may, .inl (cZ, 18, .inl o_6)), (qm_least, .inl (cI, 9, .inl o_7)), (qm_isCarried, .inl (cZ, 18, .inl o_8)), (qm_list, .inl (cI, 18, .inl o_9)), (qm_nodes, .inl (cI, 41, .inl o_10)), (qm_sums, .inl (cI, 8, .inl o_16))] H := hP
                  have hD : va_D A [(qm, .inr (6, [.ref qm_w, .ref qm_past, .int m_pastMany, .ref qm_images, .int m_filled, .ref qm_text, .int m_length, .ref qm_may, .ref qm_least, .ref qm_isCarried, .ref qm_list, .ref qm_nodes, .int o_11, .int o_12, .int o_13, .int o_14, .int o_15, .int m_isSent, .int m_isOld, .ref qm_kept, .ref qm_keptLow, .ref qm_keptHigh, .int m_keptMany, .ref qm_keptNodes, .ref qm_numbers, .ref qm_sums, .ref qm_commands, .int m_commandMany, .ref qm_held])), (qm_w, .inl (cI, 93, .inl m_w)), (qm_may, .inl (cZ, 18, .inl o_6)), (qm_least, .inl (cI, 9, .inl o_7)), (qm_isCarried, .inl (cZ, 18, .inl o_8)), (qm_list, .inl (cI, 18, .inl o_9)), (qm_nodes, .inl (cI, 41, .inl o_10)), (qm_sums, .inl (cI, 8, .inl o_16))] := hD
                  refine lv_iinc (v := (x4 + (1 : Int32))) (lv' := [(4, .int (x4 + (1 : Int32))), (0, .ref qm), (1, .int x1), (2, .int x2), (3, .int x3)]) hx hb dX6_layAll_62 hl (k := 4) rfl rfl (by decide) rfl (fun ls hl => ?_)
                  refine lv_goto (tgt := 36) hx hb dX6_layAll_65 (by decide) ?_
                  exact ih36 x1 x2 x3 (x4 + (1 : Int32)) m_w o_6 o_7 o_8 o_9 o_10 o_11 o_12 o_13 o_14 o_15 o_16 _ _ _ hP hD hS (lv_sub hl [1, 2, 3, 4, 0] rfl) h
          refine lv_iload_n hx hb dX6_layAll_23 rfl (lv_at hl 3 rfl) ?_
          refine lv_aload_n hx hb dX6_layAll_24 rfl (lv_at hl 0 rfl) ?_
          refine va_get (D := D) (ci := 6) (v := .ref qm_w) (C := RX6) (T := TX6) (N := 29) hx hb hu k_iX6 hown hK hP 0 rfl rfl 0 (by decide) (hu _ u_718) (fun _ h9 => h9) rfl dX6_layAll_25 ?_
          refine lv_iconst (v := (0 : Int32)) hx hb dX6_layAll_28 (by decide) ?_
          refine va_iald (D := D) hx hb hK hP 1 0 rfl rfl (inb_in (by decide)) dX6_layAll_29 ?_
          refine lv_icmp_ge (tgt := 74) hx hb dX6_layAll_30 (by decide) (fun cc_3 => ?_) (fun cc_3 => ?_)
          · have h := (if_pos cc_3).symm.trans h
            have hq := Option.some.inj h
            clear h
            obtain ⟨e0, hq0⟩ := Prod.mk.inj hq
            clear hq
            obtain ⟨e1, hq1⟩ := Prod.mk.inj hq0
            clear hq0
            obtain ⟨e2, hq2⟩ := Prod.mk.inj hq1
            clear hq1
            obtain ⟨e3, hq3⟩ := Prod.mk.inj hq2
            clear hq2
            obtain ⟨e4, hq4⟩ := Prod.mk.inj hq3
            clear hq3
            obtain ⟨e5, hq5⟩ := Prod.mk.inj hq4
            clear hq4
            obtain ⟨e6, hq6⟩ := Prod.mk.inj hq5
            clear hq5
            obtain ⟨e7, hq7⟩ := Prod.mk.inj hq6
            clear hq6
            obtain ⟨e8, hq8⟩ := Prod.mk.inj hq7
            clear hq7
            obtain ⟨e9, hq9⟩ := Prod.mk.inj hq8
            clear hq8
            subst e0
            subst e1
            subst e2
            subst e3
            subst e4
            subst e5
            subst e6
            subst e7
            subst e8
            subst e9
            subst hq9
            exact k_retV hx hb hr hlocks hP hD hS dX6_layAll_74
          · have h := (if_neg cc_3).symm.trans h
            refine lv_iconst (v := (0 : Int32)) hx hb dX6_layAll_33 (by decide) ?_
            refine lv_istore (lv' := [(4, .int (0 : Int32)), (0, .ref qm), (1, .int x1), (2, .int x2), (3, .int x3)]) hx hb dX6_layAll_34 hl (by decide) rfl (fun ls hl => ?_)
            exact w36 1000 x1 x2 x3 (0 : Int32) m_w m_may m_least m_isCarried m_list m_nodes m_listMany m_went m_cost m_cause m_looks m_sums _ _ _ hP hD hS (lv_sub hl [1, 2, 3, 4, 0] rfl) h
      refine lv_iload_n hx hb dX6_layAll_2 rfl (lv_at hl 3 rfl) ?_
      refine lv_bipush (v := (8 : Int32)) hx hb dX6_layAll_3 (by decide) ?_
      refine lv_icmp_ge (tgt := 21) hx hb dX6_layAll_5 (by decide) (fun cc_1 => ?_) (fun cc_1 => ?_)
      · have h := (if_pos cc_1).symm.trans h
        refine lv_iconst (v := (0 : Int32)) hx hb dX6_layAll_21 (by decide) ?_
        refine lv_istore_n (lv' := [(3, .int (0 : Int32)), (0, .ref qm), (1, .int x1), (2, .int x2)]) hx hb dX6_layAll_22 rfl hl (by decide) rfl (fun ls hl => ?_)
        exact w23 1000 x1 x2 (0 : Int32) m_w m_may m_least m_isCarried m_list m_nodes m_listMany m_went m_cost m_cause m_looks m_sums _ _ _ hP hD hS (lv_sub hl [1, 2, 3, 0] rfl) h
      · have h := (if_neg cc_1).symm.trans h
        refine lv_aload_n hx hb dX6_layAll_8 rfl (lv_at hl 0 rfl) ?_
        refine va_get (D := D) (ci := 6) (v := .ref qm_sums) (C := RX6) (T := TX6) (N := 29) hx hb hu k_iX6 hown hK hP 0 rfl rfl 25 (by decide) (hu _ u_743) (fun _ h9 => h9) rfl dX6_layAll_9 ?_
        refine lv_iload_n hx hb dX6_layAll_12 rfl (lv_at hl 3 rfl) ?_
        refine lv_iconst (v := (0 : Int32)) hx hb dX6_layAll_13 (by decide) ?_
        obtain ⟨hin_2, h⟩ := ob_if h
        have hin_2 := inb_in hin_2
        refine va_iast (D := D) hx hb hK hP hD hS 7 0 rfl rfl hin_2 dX6_layAll_14 (fun H locs hP hD hS => ?_)
        have hP : va_P D vwCl [(qm, .inr (6, [.ref qm_w, .ref qm_past, .int m_pastMany, .ref qm_images, .int m_filled, .ref qm_text, .int m_length, .ref qm_may, .ref qm_least, .ref qm_isCarried, .ref qm_list, .ref qm_nodes, .int m_listMany, .int m_went, .int m_cost, .int m_cause, .int m_looks, .int m_isSent, .int m_isOld, .ref qm_kept, .ref qm_keptLow, .ref qm_keptHigh, .int m_keptMany, .ref qm_keptNodes, .ref qm_numbers, .ref qm_sums, .ref qm_commands, .int m_commandMany, .ref qm_held])), (qm_w, .inl (cI, 93, .inl m_w)), (qm_may, .inl (cZ, 18, .inl m_may)), (qm_least, .inl (cI, 9, .inl m_least)), (qm_isCarried, .inl (cZ, 18, .inl m_isCarried)), (qm_list, .inl (cI, 18, .inl m_list)), (qm_nodes, .inl (cI, 41, .inl m_nodes)), (qm_sums, .inl (cI, 8, .inl (upd m_sums (Int32.toNatClampNeg x3) (0 : Int32))))] H := hP
        have hD : va_D A [(qm, .inr (6, [.ref qm_w, .ref qm_past, .int m_pastMany, .ref qm_images, .int m_filled, .ref qm_text, .int m_length, .ref qm_may, .ref qm_least, .ref qm_isCarried, .ref qm_list, .ref qm_nodes, .int m_listMany, .int m_went, .int m_cost, .int m_cause, .int m_looks, .int m_isSent, .int m_isOld, .ref qm_kept, .ref qm_keptLow, .ref qm_keptHigh, .int m_keptMany, .ref qm_keptNodes, .ref qm_numbers, .ref qm_sums, .ref qm_commands, .int m_commandMany, .ref qm_held])), (qm_w, .inl (cI, 93, .inl m_w)), (qm_may, .inl (cZ, 18, .inl m_may)), (qm_least, .inl (cI, 9, .inl m_least)), (qm_isCarried, .inl (cZ, 18, .inl m_isCarried)), (qm_list, .inl (cI, 18, .inl m_list)), (qm_nodes, .inl (cI, 41, .inl m_nodes)), (qm_sums, .inl (cI, 8, .inl (upd m_sums (Int32.toNatClampNeg x3) (0 : Int32))))] := hD
        refine lv_iinc (v := (x3 + (1 : Int32))) (lv' := [(3, .int (x3 + (1 : Int32))), (0, .ref qm), (1, .int x1), (2, .int x2)]) hx hb dX6_layAll_15 hl (k := 3) rfl rfl (by decide) rfl (fun ls hl => ?_)
        refine lv_goto (tgt := 2) hx hb dX6_layAll_18 (by decide) ?_
        exact ih2 x1 x2 (x3 + (1 : Int32)) m_w m_may m_least m_isCarried m_list m_nodes m_listMany m_went m_cost m_cause m_looks (upd m_sums (Int32.toNatClampNeg x3) (0 : Int32)) _ _ _ hP hD hS (lv_sub hl [1, 2, 3, 0] rfl) h
  refine lv_iconst (v := (0 : Int32)) hx hb dX6_layAll_0 (by decide) ?_
  refine lv_istore_n (lv' := [(3, .int (0 : Int32)), (0, .ref qm), (1, .int p1), (2, .int p2)]) hx hb dX6_layAll_1 rfl hl (by decide) rfl (fun ls hl => ?_)
  exact w2 1000 p1 p2 (0 : Int32) m_w m_may m_least m_isCarried m_list m_nodes m_listMany m_went m_cost m_cause m_looks m_sums _ _ _ hP hD hS (lv_sub hl [1, 2, 3, 0] rfl) h
def f_X6_all_b32  (x1 : Int32) (s0 : Int32) (m_w : (Nat → Int32)) (m_may : (Nat → Int32)) (m_least : (Nat → Int32)) (m_isCarried : (Nat → Int32)) (m_list : (Nat → Int32)) (m_nodes : (Nat → Int32)) (m_listMany : Int32) (m_went : Int32) (m_cost : Int32) (m_cause : Int32) (m_looks : Int32) (m_sums : (Nat → Int32)) : Option (Int32 × (Nat → Int32) × (Nat → Int32) × (Nat → Int32) × (Nat → Int32) × (Nat → Int32) × Int32 × Int32 × Int32 × Int32 × Int32 × (Nat → Int32)) :=
  (f_X6_layAll s0 (m_w (Int32.toNatClampNeg (2 : Int32))) m_w m_may m_least m_isCarried m_list m_nodes m_listMany m_went m_cost m_cause m_looks m_sums).bind fun ⟨o_4, o_5, o_6, o_7, o_8, o_9, o_10, o_11, o_12, o_13, o_14⟩ =>
  if inb x1 8 = true then
  some ((o_14 (Int32.toNatClampNeg x1)), o_4, o_5, o_6, o_7, o_8, o_9, o_10, o_11, o_12, o_13, o_14)
  else none
def f_X6_all (p1 : Int32) (p2 : Int32) (m_w : (Nat → Int32)) (m_may : (Nat → Int32)) (m_least : (Nat → Int32)) (m_isCarried : (Nat → Int32)) (m_list : (Nat → Int32)) (m_nodes : (Nat → Int32)) (m_listMany : Int32) (m_went : Int32) (m_cost : Int32) (m_cause : Int32) (m_looks : Int32) (m_sums : (Nat → Int32)) : Option (Int32 × (Nat → Int32) × (Nat → Int32) × (Nat → Int32) × (Nat → Int32) × (Nat → Int32) × Int32 × Int32 × Int32 × Int32 × Int32 × (Nat → Int32)) :=
  if (f_X6_isIn p1 (0 : Int32) (7 : Int32)) = (0 : Int32) then
    some ((-1 : Int32), m_may, m_least, m_isCarried, m_list, m_nodes, m_listMany, m_went, m_cost, m_cause, m_looks, m_sums)
  else
    if (f_X6_isIn p2 (0 : Int32) (1 : Int32)) = (0 : Int32) then
      some ((-1 : Int32), m_may, m_least, m_isCarried, m_list, m_nodes, m_listMany, m_went, m_cost, m_cause, m_looks, m_sums)
    else
      if p2 = (1 : Int32) then
        f_X6_all_b32  p1 (1 : Int32) m_w m_may m_least m_isCarried m_list m_nodes m_listMany m_went m_cost m_cause m_looks m_sums
      else
        f_X6_all_b32  p1 (0 : Int32) m_w m_may m_least m_isCarried m_list m_nodes m_listMany m_went m_cost m_cause m_looks m_sums
set_option maxHeartbeats 4000000 in
set_option maxRecDepth 100000 in
theorem c_X6_all (l : Launch) (D : va_G) (cI cZ cN : ClassId) (aK aV : Nat → Nat)  (qm : Nat) (qm_w : Nat) (qm_past : Nat) (qm_images : Nat) (qm_text : Nat) (qm_may : Nat) (qm_least : Nat) (qm_isCarried : Nat) (qm_list : Nat) (qm_nodes : Nat) (qm_kept : Nat) (qm_keptLow : Nat) (qm_keptHigh : Nat) (qm_keptNodes : Nat) (qm_numbers : Nat) (qm_sums : Nat) (qm_commands : Nat) (qm_held : Nat) (m_w : (Nat → Int32)) (m_pastMany : Int32) (m_filled : Int32) (m_length : Int32) (m_may : (Nat → Int32)) (m_least : (Nat → Int32)) (m_isCarried : (Nat → Int32)) (m_list : (Nat → Int32)) (m_nodes : (Nat → Int32)) (m_listMany : Int32) (m_went : Int32) (m_cost : Int32) (m_cause : Int32) (m_looks : Int32) (m_isSent : Int32) (m_isOld : Int32) (m_keptMany : Int32) (m_sums : (Nat → Int32)) (m_commandMany : Int32) (p1 p2 : Int32) (r : Int32) (z_m_may : (Nat → Int32)) (z_m_least : (Nat → Int32)) (z_m_isCarried : (Nat → Int32)) (z_m_list : (Nat → Int32)) (z_m_nodes : (Nat → Int32)) (z_m_listMany : Int32) (z_m_went : Int32) (z_m_cost : Int32) (z_m_cause : Int32) (z_m_looks : Int32) (z_m_sums : (Nat → Int32)) (h : f_X6_all p1 p2 m_w m_may m_least m_isCarried m_list m_nodes m_listMany m_went m_cost m_cause m_looks m_sums = some (r, z_m_may, z_m_least, z_m_isCarried, z_m_list, z_m_nodes, z_m_listMany, z_m_went, z_m_cost, z_m_cause, z_m_looks, z_m_sums)) : CtI l D cI cZ cN aK aV yX6_all (k_W yX6_all cX6_all 3 (some .int)) { frames := 7, cells := 0, slots := 0, locals := 168 } [.ref qm, .int p1, .int p2] [(qm, .inr (6, [.ref qm_w, .ref qm_past, .int m_pastMany, .ref qm_images, .int m_filled, .ref qm_text, .int m_length, .ref qm_may, .ref qm_least, .ref qm_isCarried, .ref qm_list, .ref qm_nodes, .int m_listMany, .int m_went, .int m_cost, .int m_cause, .int m_looks, .int m_isSent, .int m_isOld, .ref qm_kept, .ref qm_keptLow, .ref qm_keptHigh, .int m_keptMany, .ref qm_keptNodes, .ref qm_numbers, .ref qm_sums, .ref qm_commands, .int m_commandMany, .ref qm_held])), (qm_w, .inl (cI, 93, .inl m_w)), (qm_may, .inl (cZ, 18, .inl m_may)), (qm_least, .inl (cI, 9, .inl m_least)), (qm_isCarried, .inl (cZ, 18, .inl m_isCarried)), (qm_list, .inl (cI, 18, .inl m_list)), (qm_nodes, .inl (cI, 41, .inl m_nodes)), (qm_sums, .inl (cI, 8, .inl m_sums))] r [(qm, .inr (6, [.ref qm_w, .ref qm_past, .int m_pastMany, .ref qm_images, .int m_filled, .ref qm_text, .int m_length, .ref qm_may, .ref qm_least, .ref qm_isCarried, .ref qm_list, .ref qm_nodes, .int z_m_listMany, .int z_m_went, .int z_m_cost, .int z_m_cause, .int z_m_looks, .int m_isSent, .int m_isOld, .ref qm_kept, .ref qm_keptLow, .ref qm_keptHigh, .int m_keptMany, .ref qm_keptNodes, .ref qm_numbers, .ref qm_sums, .ref qm_commands, .int m_commandMany, .ref qm_held])), (qm_w, .inl (cI, 93, .inl m_w)), (qm_may, .inl (cZ, 18, .inl z_m_may)), (qm_least, .inl (cI, 9, .inl z_m_least)), (qm_isCarried, .inl (cZ, 18, .inl z_m_isCarried)), (qm_list, .inl (cI, 18, .inl z_m_list)), (qm_nodes, .inl (cI, 41, .inl z_m_nodes)), (qm_sums, .inl (cI, 8, .inl z_m_sums))] := by
  refine k_startI (by decide) (Nat.le_of_ble_eq_true rfl) ?_
  intro p e s m below meth c A ls hx hb hr hml hown hts hlocks hT hZ hA hP hD hS hl
  have hK := hT.1
  have hu : ∀ w ∈ k_U, w.before ([.ref qm, .int p1, .int p2] : List Value).toArray s = true := fun w h => hts w (List.mem_cons_of_mem _ h)
  have hown : s.vm.findClass RX6 = some m.cls := hown
  have hl : lv_has ls 3 [(0, .ref qm), (1, .int p1), (2, .int p2)] := hl
  unfold f_X6_all at h
  have w32 : ∀  (x1 : Int32) (s0 : Int32) (m_w : (Nat → Int32)) (m_may : (Nat → Int32)) (m_least : (Nat → Int32)) (m_isCarried : (Nat → Int32)) (m_list : (Nat → Int32)) (m_nodes : (Nat → Int32)) (m_listMany : Int32) (m_went : Int32) (m_cost : Int32) (m_cause : Int32) (m_looks : Int32) (m_sums : (Nat → Int32)) (H : Heap) (locs : List Loc) (ls : Array Slot), va_P D vwCl [(qm, .inr (6, [.ref qm_w, .ref qm_past, .int m_pastMany, .ref qm_images, .int m_filled, .ref qm_text, .int m_length, .ref qm_may, .ref qm_least, .ref qm_isCarried, .ref qm_list, .ref qm_nodes, .int m_listMany, .int m_went, .int m_cost, .int m_cause, .int m_looks, .int m_isSent, .int m_isOld, .ref qm_kept, .ref qm_keptLow, .ref qm_keptHigh, .int m_keptMany, .ref qm_keptNodes, .ref qm_numbers, .ref qm_sums, .ref qm_commands, .int m_commandMany, .ref qm_held])), (qm_w, .inl (cI, 93, .inl m_w)), (qm_may, .inl (cZ, 18, .inl m_may)), (qm_least, .inl (cI, 9, .inl m_least)), (qm_isCarried, .inl (cZ, 18, .inl m_isCarried)), (qm_list, .inl (cI, 18, .inl m_list)), (qm_nodes, .inl (cI, 41, .inl m_nodes)), (qm_sums, .inl (cI, 8, .inl m_sums))] H → va_D A [(qm, .inr (6, [.ref qm_w, .ref qm_past, .int m_pastMany, .ref qm_images, .int m_filled, .ref qm_text, .int m_length, .ref qm_may, .ref qm_least, .ref qm_isCarried, .ref qm_list, .ref qm_nodes, .int m_listMany, .int m_went, .int m_cost, .int m_cause, .int m_looks, .int m_isSent, .int m_isOld, .ref qm_kept, .ref qm_keptLow, .ref qm_keptHigh, .int m_keptMany, .ref qm_keptNodes, .ref qm_numbers, .ref qm_sums, .ref qm_commands, .int m_commandMany, .ref qm_held])), (qm_w, .inl (cI, 93, .inl m_w)), (qm_may, .inl (cZ, 18, .inl m_may)), (qm_least, .inl (cI, 9, .inl m_least)), (qm_isCarried, .inl (cZ, 18, .inl m_isCarried)), (qm_list, .inl (cI, 18, .inl m_list)), (qm_nodes, .inl (cI, 41, .inl m_nodes)), (qm_sums, .inl (cI, 8, .inl m_sums))] → va_S A s.heap H locs → lv_has ls 3 [(0, .ref qm), (1, .int x1)] → f_X6_all_b32 x1 s0 m_w m_may m_least m_isCarried m_list m_nodes m_listMany m_went m_cost m_cause m_looks m_sums = some (r, z_m_may, z_m_least, z_m_isCarried, z_m_list, z_m_nodes, z_m_listMany, z_m_went, z_m_cost, z_m_cause, z_m_looks, z_m_sums) → W p l e { frames := 7, cells := 0, slots := 0, locals := 168 } s m ([.ref qm, .int p1, .int p2] : List Value).toArray below meth c H locs 0 0 (MQ below (k_QI D r [(qm, .inr (6, [.ref qm_w, .ref qm_past, .int m_pastMany, .ref qm_images, .int m_filled, .ref qm_text, .int m_length, .ref qm_may, .ref qm_least, .ref qm_isCarried, .ref qm_list, .ref qm_nodes, .int z_m_listMany, .int z_m_went, .int z_m_cost, .int z_m_cause, .int z_m_looks, .int m_isSent, .int m_isOld, .ref qm_kept, .ref qm_keptLow, .ref qm_keptHigh, .int m_keptMany, .ref qm_keptNodes, .ref qm_numbers, .ref qm_sums, .ref qm_commands, .int m_commandMany, .ref qm_held])), (qm_w, .inl (cI, 93, .inl m_w)), (qm_may, .inl (cZ, 18, .inl z_m_may)), (qm_least, .inl (cI, 9, .inl z_m_least)), (qm_isCarried, .inl (cZ, 18, .inl z_m_isCarried)), (qm_list, .inl (cI, 18, .inl z_m_list)), (qm_nodes, .inl (cI, 41, .inl z_m_nodes)), (qm_sums, .inl (cI, 8, .inl z_m_sums))] A) ([.ref qm, .int p1, .int p2] : List Value).toArray s 0 0 A) (F0 m 32 ls [.int s0, .ref qm]) := by
    intro x1 s0 m_w m_may m_least m_isCarried m_list m_nodes m_listMany m_went m_cost m_cause m_looks m_sums H locs ls hP hD hS hl h
    unfold f_X6_all_b32 at h
    refine lv_aload_n hx hb dX6_all_32 rfl (lv_at hl 0 rfl) ?_
    refine va_get (D := D) (ci := 6) (v := .ref qm_w) (C := RX6) (T := TX6) (N := 29) hx hb hu k_iX6 hown hK hP 0 rfl rfl 0 (by decide) (hu _ u_718) (fun _ h9 => h9) rfl dX6_all_33 ?_
    refine lv_iconst (v := (2 : Int32)) hx hb dX6_all_36 (by decide) ?_
    refine va_iald (D := D) hx hb hK hP 1 0 rfl rfl (inb_in (by decide)) dX6_all_37 ?_
    obtain ⟨⟨o_4, o_5, o_6, o_7, o_8, o_9, o_10, o_11, o_12, o_13, o_14⟩, hc_15, h⟩ := ob_bind h
    dsimp only at h
    refine k_callVV (qb := 0) [0, 1, 2, 3, 4, 5, 6, 7] [0, 2, 3, 4, 5, 6, 7] [0, 2, 3, 4, 5, 6, 7] [(qm, .inr (6, [.ref qm_w, .ref qm_past, .int m_pastMany, .ref qm_images, .int m_filled, .ref qm_text, .int m_length, .ref qm_may, .ref qm_least, .ref qm_isCarried, .ref qm_list, .ref qm_nodes, .int o_9, .int o_10, .int o_11, .int o_12, .int o_13, .int m_isSent, .int m_isOld, .ref qm_kept, .ref qm_keptLow, .ref qm_keptHigh, .int m_keptMany, .ref qm_keptNodes, .ref qm_numbers, .ref qm_sums, .ref qm_commands, .int m_commandMany, .ref qm_held])), (qm_may, .inl (cZ, 18, .inl o_4)), (qm_least, .inl (cI, 9, .inl o_5)), (qm_isCarried, .inl (cZ, 18, .inl o_6)), (qm_list, .inl (cI, 18, .inl o_7)), (qm_nodes, .inl (cI, 41, .inl o_8)), (qm_sums, .inl (cI, 8, .inl o_14))] (As := [.int s0, .int (m_w (Int32.toNatClampNeg (2 : Int32)))]) (rest := []) ⟨hx, hb, hml, hown, hts⟩ hT hZ hA hP hD hS (c_X6_layAll l D cI cZ cN aK aV qm qm_w qm_past qm_images qm_text qm_may qm_least qm_isCarried qm_list qm_nodes qm_kept qm_keptLow qm_keptHigh qm_keptNodes qm_numbers qm_sums qm_commands qm_held m_w m_pastMany m_filled m_length m_may m_least m_isCarried m_list m_nodes m_listMany m_went m_cost m_cause m_looks m_isSent m_isOld m_keptMany m_sums m_commandMany s0 (m_w (Int32.toNatClampNeg (2 : Int32))) o_4 o_5 o_6 o_7 o_8 o_9 o_10 o_11 o_12 o_13 o_14 hc_15) ⟨callB_of 2 hts (k_good u_961) rfl rfl rfl (hu _ u_51) (hu _ u_958) (by decide +kernel) ⟨Nat.le_of_ble_eq_true rfl, Nat.le_of_ble_eq_true rfl⟩, hu _ u_960, hu _ u_37⟩ rfl rfl rfl (by decide) (by decide) (by decide) rfl rfl rfl rfl hl.1 rfl (Nat.le_of_ble_eq_true rfl) dX6_all_38 (fun H locs hP hD hS => ?_)
    have hP : va_P D vwCl [(qm, .inr (6, [.ref qm_w, .ref qm_past, .int m_pastMany, .ref qm_images, .int m_filled, .ref qm_text, .int m_length, .ref qm_may, .ref qm_least, .ref qm_isCarried, .ref qm_list, .ref qm_nodes, .int o_9, .int o_10, .int o_11, .int o_12, .int o_13, .int m_isSent, .int m_isOld, .ref qm_kept, .ref qm_keptLow, .ref qm_keptHigh, .int m_keptMany, .ref qm_keptNodes, .ref qm_numbers, .ref qm_sums, .ref qm_commands, .int m_commandMany, .ref qm_held])), (qm_w, .inl (cI, 93, .inl m_w)), (qm_may, .inl (cZ, 18, .inl o_4)), (qm_least, .inl (cI, 9, .inl o_5)), (qm_isCarried, .inl (cZ, 18, .inl o_6)), (qm_list, .inl (cI, 18, .inl o_7)), (qm_nodes, .inl (cI, 41, .inl o_8)), (qm_sums, .inl (cI, 8, .inl o_14))] H := hP
    have hD : va_D A [(qm, .inr (6, [.ref qm_w, .ref qm_past, .int m_pastMany, .ref qm_images, .int m_filled, .ref qm_text, .int m_length, .ref qm_may, .ref qm_least, .ref qm_isCarried, .ref qm_list, .ref qm_nodes, .int o_9, .int o_10, .int o_11, .int o_12, .int o_13, .int m_isSent, .int m_isOld, .ref qm_kept, .ref qm_keptLow, .ref qm_keptHigh, .int m_keptMany, .ref qm_keptNodes, .ref qm_numbers, .ref qm_sums, .ref qm_commands, .int m_commandMany, .ref qm_held])), (qm_w, .inl (cI, 93, .inl m_w)), (qm_may, .inl (cZ, 18, .inl o_4)), (qm_least, .inl (cI, 9, .inl o_5)), (qm_isCarried, .inl (cZ, 18, .inl o_6)), (qm_list, .inl (cI, 18, .inl o_7)), (qm_nodes, .inl (cI, 41, .inl o_8)), (qm_sums, .inl (cI, 8, .inl o_14))] := hD
    refine lv_aload_n hx hb dX6_all_41 rfl (lv_at hl 0 rfl) ?_
    refine va_get (D := D) (ci := 6) (v := .ref qm_sums) (C := RX6) (T := TX6) (N := 29) hx hb hu k_iX6 hown hK hP 0 rfl rfl 25 (by decide) (hu _ u_743) (fun _ h9 => h9) rfl dX6_all_42 ?_
    refine lv_iload_n hx hb dX6_all_45 rfl (lv_at hl 1 rfl) ?_
    obtain ⟨hin_16, h⟩ := ob_if h
    have hin_16 := inb_in hin_16
    refine va_iald (D := D) hx hb hK hP 7 0 rfl rfl hin_16 dX6_all_46 ?_
    have hq := Option.some.inj h
    clear h
    obtain ⟨e0, hq0⟩ := Prod.mk.inj hq
    clear hq
    obtain ⟨e1, hq1⟩ := Prod.mk.inj hq0
    clear hq0
    obtain ⟨e2, hq2⟩ := Prod.mk.inj hq1
    clear hq1
    obtain ⟨e3, hq3⟩ := Prod.mk.inj hq2
    clear hq2
    obtain ⟨e4, hq4⟩ := Prod.mk.inj hq3
    clear hq3
    obtain ⟨e5, hq5⟩ := Prod.mk.inj hq4
    clear hq4
    obtain ⟨e6, hq6⟩ := Prod.mk.inj hq5
    clear hq5
    obtain ⟨e7, hq7⟩ := Prod.mk.inj hq6
    clear hq6
    obtain ⟨e8, hq8⟩ := Prod.mk.inj hq7
    clear hq7
    obtain ⟨e9, hq9⟩ := Prod.mk.inj hq8
    clear hq8
    obtain ⟨e10, hq10⟩ := Prod.mk.inj hq9
    clear hq9
    subst e0
    subst e1
    subst e2
    subst e3
    subst e4
    subst e5
    subst e6
    subst e7
    subst e8
    subst e9
    subst e10
    subst hq10
    exact k_retI hx hb hr hlocks hP hD hS dX6_all_47
  refine lv_iload_n hx hb dX6_all_0 rfl (lv_at hl 1 rfl) ?_
  refine lv_iconst (v := (0 : Int32)) hx hb dX6_all_1 (by decide) ?_
  refine lv_bipush (v := (7 : Int32)) hx hb dX6_all_2 (by decide) ?_
  refine k_call0 (As := [.int p1, .int (0 : Int32), .int (7 : Int32)]) (rest := []) ⟨hx, hb, hml, hown, hts⟩ hT hZ hA hP hD hS (c_X6_isIn l D cI cZ cN aK aV p1 (0 : Int32) (7 : Int32) _ rfl) ⟨callB_of 3 hts (k_good u_812) rfl rfl rfl (hu _ u_51) (hu _ u_810) (by decide +kernel) ⟨Nat.le_of_ble_eq_true rfl, Nat.le_of_ble_eq_true rfl⟩, hu _ u_811⟩ rfl hl.1 rfl (Nat.le_of_ble_eq_true rfl) dX6_all_4 (fun H locs hP hD hS => ?_)
  refine lv_if_eq (tgt := 19) hx hb dX6_all_7 (by decide) (fun cc_1 => ?_) (fun cc_1 => ?_)
  · have h := (if_pos cc_1).symm.trans h
    refine lv_iconst (v := (-1 : Int32)) hx hb dX6_all_19 (by decide) ?_
    have hq := Option.some.inj h
    clear h
    obtain ⟨e0, hq0⟩ := Prod.mk.inj hq
    clear hq
    obtain ⟨e1, hq1⟩ := Prod.mk.inj hq0
    clear hq0
    obtain ⟨e2, hq2⟩ := Prod.mk.inj hq1
    clear hq1
    obtain ⟨e3, hq3⟩ := Prod.mk.inj hq2
    clear hq2
    obtain ⟨e4, hq4⟩ := Prod.mk.inj hq3
    clear hq3
    obtain ⟨e5, hq5⟩ := Prod.mk.inj hq4
    clear hq4
    obtain ⟨e6, hq6⟩ := Prod.mk.inj hq5
    clear hq5
    obtain ⟨e7, hq7⟩ := Prod.mk.inj hq6
    clear hq6
    obtain ⟨e8, hq8⟩ := Prod.mk.inj hq7
    clear hq7
    obtain ⟨e9, hq9⟩ := Prod.mk.inj hq8
    clear hq8
    obtain ⟨e10, hq10⟩ := Prod.mk.inj hq9
    clear hq9
    subst e0
    subst e1
    subst e2
    subst e3
    subst e4
    subst e5
    subst e6
    subst e7
    subst e8
    subst e9
    subst e10
    subst hq10
    exact k_retI hx hb hr hlocks hP hD hS dX6_all_20
  · have h := (if_neg cc_1).symm.trans h
    refine lv_iload_n hx hb dX6_all_10 rfl (lv_at hl 2 rfl) ?_
    refine lv_iconst (v := (0 : Int32)) hx hb dX6_all_11 (by decide) ?_
    refine lv_iconst (v := (1 : Int32)) hx hb dX6_all_12 (by decide) ?_
    refine k_call0 (As := [.int p2, .int (0 : Int32), .int (1 : Int32)]) (rest := []) ⟨hx, hb, hml, hown, hts⟩ hT hZ hA hP hD hS (c_X6_isIn l D cI cZ cN aK aV p2 (0 : Int32) (1 : Int32) _ rfl) ⟨callB_of 3 hts (k_good u_812) rfl rfl rfl (hu _ u_51) (hu _ u_810) (by decide +kernel) ⟨Nat.le_of_ble_eq_true rfl, Nat.le_of_ble_eq_true rfl⟩, hu _ u_811⟩ rfl hl.1 rfl (Nat.le_of_ble_eq_true rfl) dX6_all_13 (fun H locs hP hD hS => ?_)
    refine lv_if_ne (tgt := 21) hx hb dX6_all_16 (by decide) (fun cc_2 => ?_) (fun cc_2 => ?_)
    · have h := (if_neg cc_2).symm.trans h
      refine lv_aload_n hx hb dX6_all_21 rfl (lv_at hl 0 rfl) ?_
      refine lv_iload_n hx hb dX6_all_22 rfl (lv_at hl 2 rfl) ?_
      refine lv_iconst (v := (1 : Int32)) hx hb dX6_all_23 (by decide) ?_
      refine lv_icmp_ne (tgt := 31) hx hb dX6_all_24 (by decide) (fun cc_3 => ?_) (fun cc_3 => ?_)
      · have h := (if_neg cc_3).symm.trans h
        refine lv_iconst (v := (0 : Int32)) hx hb dX6_all_31 (by decide) ?_
        exact w32 p1 (0 : Int32) m_w m_may m_least m_isCarried m_list m_nodes m_listMany m_went m_cost m_cause m_looks m_sums _ _ _ hP hD hS (lv_sub hl [0, 1] rfl) h
      · have h := (if_pos cc_3).symm.trans h
        refine lv_iconst (v := (1 : Int32)) hx hb dX6_all_27 (by decide) ?_
        refine lv_goto (tgt := 32) hx hb dX6_all_28 (by decide) ?_
        exact w32 p1 (1 : Int32) m_w m_may m_least m_isCarried m_list m_nodes m_listMany m_went m_cost m_cause m_looks m_sums _ _ _ hP hD hS (lv_sub hl [0, 1] rfl) h
    · have h := (if_pos cc_2).symm.trans h
      refine lv_iconst (v := (-1 : Int32)) hx hb dX6_all_19 (by decide) ?_
      have hq := Option.some.inj h
      clear h
      obtain ⟨e0, hq0⟩ := Prod.mk.inj hq
      clear hq
      obtain ⟨e1, hq1⟩ := Prod.mk.inj hq0
      clear hq0
      obtain ⟨e2, hq2⟩ := Prod.mk.inj hq1
      clear hq1
      obtain ⟨e3, hq3⟩ := Prod.mk.inj hq2
      clear hq2
      obtain ⟨e4, hq4⟩ := Prod.mk.inj hq3
      clear hq3
      obtain ⟨e5, hq5⟩ := Prod.mk.inj hq4
      clear hq4
      obtain ⟨e6, hq6⟩ := Prod.mk.inj hq5
      clear hq5
      obtain ⟨e7, hq7⟩ := Prod.mk.inj hq6
      clear hq6
      obtain ⟨e8, hq8⟩ := Prod.mk.inj hq7
      clear hq7
      obtain ⟨e9, hq9⟩ := Prod.mk.inj hq8
      clear hq8
      obtain ⟨e10, hq10⟩ := Prod.mk.inj hq9
      clear hq9
      subst e0
      subst e1
      subst e2
      subst e3
      subst e4
      subst e5
      subst e6
      subst e7
      subst e8
      subst e9
      subst e10
      subst hq10
      exact k_retI hx hb hr hlocks hP hD hS dX6_all_20
def f_X6_enoughRoom_b22  : Nat → Int32 → Int32 → (Nat → Int32) → (Nat → Int32) → (Nat → Int32) → (Nat → Int32) → (Nat → Int32) → (Nat → Int32) → Int32 → Int32 → Int32 → Int32 → Int32 → (Nat → Int32) → Option (Int32 × (Nat → Int32) × (Nat → Int32) × (Nat → Int32) × (Nat → Int32) × (Nat → Int32) × Int32 × Int32 × Int32 × Int32 × Int32 × (Nat → Int32))
  | 0, _, _, _, _, _, _, _, _, _, _, _, _, _, _ => none
  | n + 1, x1, x2, m_w, m_may, m_least, m_isCarried, m_list, m_nodes, m_listMany, m_went, m_cost, m_cause, m_looks, m_sums =>
    if (m_sums (Int32.toNatClampNeg (1 : Int32))) = x1 then
      some (x2, m_may, m_least, m_isCarried, m_list, m_nodes, m_listMany, m_went, m_cost, m_cause, m_looks, m_sums)
    else
      (f_X6_layAll (0 : Int32) (x2 + (1 : Int32)) m_w m_may m_least m_isCarried m_list m_nodes m_listMany m_went m_cost m_cause m_looks m_sums).bind fun ⟨o_26, o_27, o_28, o_29, o_30, o_31, o_32, o_33, o_34, o_35, o_36⟩ =>
      (f_X6_enoughRoom_b22 n) x1 (x2 + (1 : Int32)) m_w o_26 o_27 o_28 o_29 o_30 o_31 o_32 o_33 o_34 o_35 o_36
def f_X6_enoughRoom (m_w : (Nat → Int32)) (m_may : (Nat → Int32)) (m_least : (Nat → Int32)) (m_isCarried : (Nat → Int32)) (m_list : (Nat → Int32)) (m_nodes : (Nat → Int32)) (m_listMany : Int32) (m_went : Int32) (m_cost : Int32) (m_cause : Int32) (m_looks : Int32) (m_sums : (Nat → Int32)) : Option (Int32 × (Nat → Int32) × (Nat → Int32) × (Nat → Int32) × (Nat → Int32) × (Nat → Int32) × Int32 × Int32 × Int32 × Int32 × Int32 × (Nat → Int32)) :=
  (f_X6_layAll (0 : Int32) (18 : Int32) m_w m_may m_least m_isCarried m_list m_nodes m_listMany m_went m_cost m_cause m_looks m_sums).bind fun ⟨o_1, o_2, o_3, o_4, o_5, o_6, o_7, o_8, o_9, o_10, o_11⟩ =>
  (f_X6_layAll (0 : Int32) (0 : Int32) m_w o_1 o_2 o_3 o_4 o_5 o_6 o_7 o_8 o_9 o_10 o_11).bind fun ⟨o_13, o_14, o_15, o_16, o_17, o_18, o_19, o_20, o_21, o_22, o_23⟩ =>
  f_X6_enoughRoom_b22 1000 (o_11 (Int32.toNatClampNeg (1 : Int32))) (0 : Int32) m_w o_13 o_14 o_15 o_16 o_17 o_18 o_19 o_20 o_21 o_22 o_23
set_option maxHeartbeats 4000000 in
set_option maxRecDepth 100000 in
theorem c_X6_enoughRoom (l : Launch) (D : va_G) (cI cZ cN : ClassId) (aK aV : Nat → Nat)  (qm : Nat) (qm_w : Nat) (qm_past : Nat) (qm_images : Nat) (qm_text : Nat) (qm_may : Nat) (qm_least : Nat) (qm_isCarried : Nat) (qm_list : Nat) (qm_nodes : Nat) (qm_kept : Nat) (qm_keptLow : Nat) (qm_keptHigh : Nat) (qm_keptNodes : Nat) (qm_numbers : Nat) (qm_sums : Nat) (qm_commands : Nat) (qm_held : Nat) (m_w : (Nat → Int32)) (m_pastMany : Int32) (m_filled : Int32) (m_length : Int32) (m_may : (Nat → Int32)) (m_least : (Nat → Int32)) (m_isCarried : (Nat → Int32)) (m_list : (Nat → Int32)) (m_nodes : (Nat → Int32)) (m_listMany : Int32) (m_went : Int32) (m_cost : Int32) (m_cause : Int32) (m_looks : Int32) (m_isSent : Int32) (m_isOld : Int32) (m_keptMany : Int32) (m_sums : (Nat → Int32)) (m_commandMany : Int32) (r : Int32) (z_m_may : (Nat → Int32)) (z_m_least : (Nat → Int32)) (z_m_isCarried : (Nat → Int32)) (z_m_list : (Nat → Int32)) (z_m_nodes : (Nat → Int32)) (z_m_listMany : Int32) (z_m_went : Int32) (z_m_cost : Int32) (z_m_cause : Int32) (z_m_looks : Int32) (z_m_sums : (Nat → Int32)) (h : f_X6_enoughRoom m_w m_may m_least m_isCarried m_list m_nodes m_listMany m_went m_cost m_cause m_looks m_sums = some (r, z_m_may, z_m_least, z_m_isCarried, z_m_list, z_m_nodes, z_m_listMany, z_m_went, z_m_cost, z_m_cause, z_m_looks, z_m_sums)) : CtI l D cI cZ cN aK aV yX6_enoughRoom (k_W yX6_enoughRoom cX6_enoughRoom 3 (some .int)) { frames := 7, cells := 0, slots := 0, locals := 168 } [.ref qm] [(qm, .inr (6, [.ref qm_w, .ref qm_past, .int m_pastMany, .ref qm_images, .int m_filled, .ref qm_text, .int m_length, .ref qm_may, .ref qm_least, .ref qm_isCarried, .ref qm_list, .ref qm_nodes, .int m_listMany, .int m_went, .int m_cost, .int m_cause, .int m_looks, .int m_isSent, .int m_isOld, .ref qm_kept, .ref qm_keptLow, .ref qm_keptHigh, .int m_keptMany, .ref qm_keptNodes, .ref qm_numbers, .ref qm_sums, .ref qm_commands, .int m_commandMany, .ref qm_held])), (qm_w, .inl (cI, 93, .inl m_w)), (qm_may, .inl (cZ, 18, .inl m_may)), (qm_least, .inl (cI, 9, .inl m_least)), (qm_isCarried, .inl (cZ, 18, .inl m_isCarried)), (qm_list, .inl (cI, 18, .inl m_list)), (qm_nodes, .inl (cI, 41, .inl m_nodes)), (qm_sums, .inl (cI, 8, .inl m_sums))] r [(qm, .inr (6, [.ref qm_w, .ref qm_past, .int m_pastMany, .ref qm_images, .int m_filled, .ref qm_text, .int m_length, .ref qm_may, .ref qm_least, .ref qm_isCarried, .ref qm_list, .ref qm_nodes, .int z_m_listMany, .int z_m_went, .int z_m_cost, .int z_m_cause, .int z_m_looks, .int m_isSent, .int m_isOld, .ref qm_kept, .ref qm_keptLow, .ref qm_keptHigh, .int m_keptMany, .ref qm_keptNodes, .ref qm_numbers, .ref qm_sums, .ref qm_commands, .int m_commandMany, .ref qm_held])), (qm_w, .inl (cI, 93, .inl m_w)), (qm_may, .inl (cZ, 18, .inl z_m_may)), (qm_least, .inl (cI, 9, .inl z_m_least)), (qm_isCarried, .inl (cZ, 18, .inl z_m_isCarried)), (qm_list, .inl (cI, 18, .inl z_m_list)), (qm_nodes, .inl (cI, 41, .inl z_m_nodes)), (qm_sums, .inl (cI, 8, .inl z_m_sums))] := by
  refine k_startI (by decide) (Nat.le_of_ble_eq_true rfl) ?_
  intro p e s m below meth c A ls hx hb hr hml hown hts hlocks hT hZ hA hP hD hS hl
  have hK := hT.1
  have hu : ∀ w ∈ k_U, w.before ([.ref qm] : List Value).toArray s = true := fun w h => hts w (List.mem_cons_of_mem _ h)
  have hown : s.vm.findClass RX6 = some m.cls := hown
  have hl : lv_has ls 3 [(0, .ref qm)] := hl
  unfold f_X6_enoughRoom at h
  have w22 : ∀ (n22 : Nat) (x1 : Int32) (x2 : Int32) (m_w : (Nat → Int32)) (m_may : (Nat → Int32)) (m_least : (Nat → Int32)) (m_isCarried : (Nat → Int32)) (m_list : (Nat → Int32)) (m_nodes : (Nat → Int32)) (m_listMany : Int32) (m_went : Int32) (m_cost : Int32) (m_cause : Int32) (m_looks : Int32) (m_sums : (Nat → Int32)) (H : Heap) (locs : List Loc) (ls : Array Slot), va_P D vwCl [(qm, .inr (6, [.ref qm_w, .ref qm_past, .int m_pastMany, .ref qm_images, .int m_filled, .ref qm_text, .int m_length, .ref qm_may, .ref qm_least, .ref qm_isCarried, .ref qm_list, .ref qm_nodes, .int m_listMany, .int m_went, .int m_cost, .int m_cause, .int m_looks, .int m_isSent, .int m_isOld, .ref qm_kept, .ref qm_keptLow, .ref qm_keptHigh, .int m_keptMany, .ref qm_keptNodes, .ref qm_numbers, .ref qm_sums, .ref qm_commands, .int m_commandMany, .ref qm_held])), (qm_w, .inl (cI, 93, .inl m_w)), (qm_may, .inl (cZ, 18, .inl m_may)), (qm_least, .inl (cI, 9, .inl m_least)), (qm_isCarried, .inl (cZ, 18, .inl m_isCarried)), (qm_list, .inl (cI, 18, .inl m_list)), (qm_nodes, .inl (cI, 41, .inl m_nodes)), (qm_sums, .inl (cI, 8, .inl m_sums))] H → va_D A [(qm, .inr (6, [.ref qm_w, .ref qm_past, .int m_pastMany, .ref qm_images, .int m_filled, .ref qm_text, .int m_length, .ref qm_may, .ref qm_least, .ref qm_isCarried, .ref qm_list, .ref qm_nodes, .int m_listMany, .int m_went, .int m_cost, .int m_cause, .int m_looks, .int m_isSent, .int m_isOld, .ref qm_kept, .ref qm_keptLow, .ref qm_keptHigh, .int m_keptMany, .ref qm_keptNodes, .ref qm_numbers, .ref qm_sums, .ref qm_commands, .int m_commandMany, .ref qm_held])), (qm_w, .inl (cI, 93, .inl m_w)), (qm_may, .inl (cZ, 18, .inl m_may)), (qm_least, .inl (cI, 9, .inl m_least)), (qm_isCarried, .inl (cZ, 18, .inl m_isCarried)), (qm_list, .inl (cI, 18, .inl m_list)), (qm_nodes, .inl (cI, 41, .inl m_nodes)), (qm_sums, .inl (cI, 8, .inl m_sums))] → va_S A s.heap H locs → lv_has ls 3 [(0, .ref qm), (1, .int x1), (2, .int x2)] → f_X6_enoughRoom_b22 n22 x1 x2 m_w m_may m_least m_isCarried m_list m_nodes m_listMany m_went m_cost m_cause m_looks m_sums = some (r, z_m_may, z_m_least, z_m_isCarried, z_m_list, z_m_nodes, z_m_listMany, z_m_went, z_m_cost, z_m_cause, z_m_looks, z_m_sums) → W p l e { frames := 7, cells := 0, slots := 0, locals := 168 } s m ([.ref qm] : List Value).toArray below meth c H locs 0 0 (MQ below (k_QI D r [(qm, .inr (6, [.ref qm_w, .ref qm_past, .int m_pastMany, .ref qm_images, .int m_filled, .ref qm_text, .int m_length, .ref qm_may, .ref qm_least, .ref qm_isCarried, .ref qm_list, .ref qm_nodes, .int z_m_listMany, .int z_m_went, .int z_m_cost, .int z_m_cause, .int z_m_looks, .int m_isSent, .int m_isOld, .ref qm_kept, .ref qm_keptLow, .ref qm_keptHigh, .int m_keptMany, .ref qm_keptNodes, .ref qm_numbers, .ref qm_sums, .ref qm_commands, .int m_commandMany, .ref qm_held])), (qm_w, .inl (cI, 93, .inl m_w)), (qm_may, .inl (cZ, 18, .inl z_m_may)), (qm_least, .inl (cI, 9, .inl z_m_least)), (qm_isCarried, .inl (cZ, 18, .inl z_m_isCarried)), (qm_list, .inl (cI, 18, .inl z_m_list)), (qm_nodes, .inl (cI, 41, .inl z_m_nodes)), (qm_sums, .inl (cI, 8, .inl z_m_sums))] A) ([.ref qm] : List Value).toArray s 0 0 A) (F0 m 22 ls []) := by
    intro n22
    induction n22 with
    | zero =>
      intro x1 x2 m_w m_may m_least m_isCarried m_list m_nodes m_listMany m_went m_cost m_cause m_looks m_sums H locs ls hP hD hS hl h
      rw [f_X6_enoughRoom_b22] at h
      cases h
    | succ n22 ih22 =>
      intro x1 x2 m_w m_may m_least m_isCarried m_list m_nodes m_listMany m_went m_cost m_cause m_looks m_sums H locs ls hP hD hS hl h
      rw [f_X6_enoughRoom_b22] at h
      refine lv_aload_n hx hb dX6_enoughRoom_22 rfl (lv_at hl 0 rfl) ?_
      refine va_get (D := D) (ci := 6) (v := .ref qm_sums) (C := RX6) (T := TX6) (N := 29) hx hb hu k_iX6 hown hK hP 0 rfl rfl 25 (by decide) (hu _ u_743) (fun _ h9 => h9) rfl dX6_enoughRoom_23 ?_
      refine lv_iconst (v := (1 : Int32)) hx hb dX6_enoughRoom_26 (by decide) ?_
      refine va_iald (D := D) hx hb hK hP 7 0 rfl rfl (inb_in (by decide)) dX6_enoughRoom_27 ?_
      refine lv_iload_n hx hb dX6_enoughRoom_28 rfl (lv_at hl 1 rfl) ?_
      refine lv_icmp_eq (tgt := 44) hx hb dX6_enoughRoom_29 (by decide) (fun cc_25 => ?_) (fun cc_25 => ?_)
      · have h := (if_pos cc_25).symm.trans h
        refine lv_iload_n hx hb dX6_enoughRoom_44 rfl (lv_at hl 2 rfl) ?_
        have hq := Option.some.inj h
        clear h
        obtain ⟨e0, hq0⟩ := Prod.mk.inj hq
        clear hq
        obtain ⟨e1, hq1⟩ := Prod.mk.inj hq0
        clear hq0
        obtain ⟨e2, hq2⟩ := Prod.mk.inj hq1
        clear hq1
        obtain ⟨e3, hq3⟩ := Prod.mk.inj hq2
        clear hq2
        obtain ⟨e4, hq4⟩ := Prod.mk.inj hq3
        clear hq3
        obtain ⟨e5, hq5⟩ := Prod.mk.inj hq4
        clear hq4
        obtain ⟨e6, hq6⟩ := Prod.mk.inj hq5
        clear hq5
        obtain ⟨e7, hq7⟩ := Prod.mk.inj hq6
        clear hq6
        obtain ⟨e8, hq8⟩ := Prod.mk.inj hq7
        clear hq7
        obtain ⟨e9, hq9⟩ := Prod.mk.inj hq8
        clear hq8
        obtain ⟨e10, hq10⟩ := Prod.mk.inj hq9
        clear hq9
        subst e0
        subst e1
        subst e2
        subst e3
        subst e4
        subst e5
        subst e6
        subst e7
        subst e8
        subst e9
        subst e10
        subst hq10
        exact k_retI hx hb hr hlocks hP hD hS dX6_enoughRoom_45
      · have h := (if_neg cc_25).symm.trans h
        refine lv_iinc (v := (x2 + (1 : Int32))) (lv' := [(2, .int (x2 + (1 : Int32))), (0, .ref qm), (1, .int x1)]) hx hb dX6_enoughRoom_32 hl (k := 2) rfl rfl (by decide) rfl (fun ls hl => ?_)
        refine lv_aload_n hx hb dX6_enoughRoom_35 rfl (lv_at hl 1 rfl) ?_
        refine lv_iconst (v := (0 : Int32)) hx hb dX6_enoughRoom_36 (by decide) ?_
        refine lv_iload_n hx hb dX6_enoughRoom_37 rfl (lv_at hl 0 rfl) ?_
        obtain ⟨⟨o_26, o_27, o_28, o_29, o_30, o_31, o_32, o_33, o_34, o_35, o_36⟩, hc_37, h⟩ := ob_bind h
        dsimp only at h
        refine k_callVV (qb := 0) [0, 1, 2, 3, 4, 5, 6, 7] [0, 2, 3, 4, 5, 6, 7] [0, 2, 3, 4, 5, 6, 7] [(qm, .inr (6, [.ref qm_w, .ref qm_past, .int m_pastMany, .ref qm_images, .int m_filled, .ref qm_text, .int m_length, .ref qm_may, .ref qm_least, .ref qm_isCarried, .ref qm_list, .ref qm_nodes, .int o_31, .int o_32, .int o_33, .int o_34, .int o_35, .int m_isSent, .int m_isOld, .ref qm_kept, .ref qm_keptLow, .ref qm_keptHigh, .int m_keptMany, .ref qm_keptNodes, .ref qm_numbers, .ref qm_sums, .ref qm_commands, .int m_commandMany, .ref qm_held])), (qm_may, .inl (cZ, 18, .inl o_26)), (qm_least, .inl (cI, 9, .inl o_27)), (qm_isCarried, .inl (cZ, 18, .inl o_28)), (qm_list, .inl (cI, 18, .inl o_29)), (qm_nodes, .inl (cI, 41, .inl o_30)), (qm_sums, .inl (cI, 8, .inl o_36))] (As := [.int (0 : Int32), .int (x2 + (1 : Int32))]) (rest := []) ⟨hx, hb, hml, hown, hts⟩ hT hZ hA hP hD hS (c_X6_layAll l D cI cZ cN aK aV qm qm_w qm_past qm_images qm_text qm_may qm_least qm_isCarried qm_list qm_nodes qm_kept qm_keptLow qm_keptHigh qm_keptNodes qm_numbers qm_sums qm_commands qm_held m_w m_pastMany m_filled m_length m_may m_least m_isCarried m_list m_nodes m_listMany m_went m_cost m_cause m_looks m_isSent m_isOld m_keptMany m_sums m_commandMany (0 : Int32) (x2 + (1 : Int32)) o_26 o_27 o_28 o_29 o_30 o_31 o_32 o_33 o_34 o_35 o_36 hc_37) ⟨callB_of 2 hts (k_good u_961) rfl rfl rfl (hu _ u_51) (hu _ u_958) (by decide +kernel) ⟨Nat.le_of_ble_eq_true rfl, Nat.le_of_ble_eq_true rfl⟩, hu _ u_960, hu _ u_37⟩ rfl rfl rfl (by decide) (by decide) (by decide) rfl rfl rfl rfl hl.1 rfl (Nat.le_of_ble_eq_true rfl) dX6_enoughRoom_38 (fun H locs hP hD hS => ?_)
        have hP : va_P D vwCl [(qm, .inr (6, [.ref qm_w, .ref qm_past, .int m_pastMany, .ref qm_images, .int m_filled, .ref qm_text, .int m_length, .ref qm_may, .ref qm_least, .ref qm_isCarried, .ref qm_list, .ref qm_nodes, .int o_31, .int o_32, .int o_33, .int o_34, .int o_35, .int m_isSent, .int m_isOld, .ref qm_kept, .ref qm_keptLow, .ref qm_keptHigh, .int m_keptMany, .ref qm_keptNodes, .ref qm_numbers, .ref qm_sums, .ref qm_commands, .int m_commandMany, .ref qm_held])), (qm_w, .inl (cI, 93, .inl m_w)), (qm_may, .inl (cZ, 18, .inl o_26)), (qm_least, .inl (cI, 9, .inl o_27)), (qm_isCarried, .inl (cZ, 18, .inl o_28)), (qm_list, .inl (cI, 18, .inl o_29)), (qm_nodes, .inl (cI, 41, .inl o_30)), (qm_sums, .inl (cI, 8, .inl o_36))] H := hP
        have hD : va_D A [(qm, .inr (6, [.ref qm_w, .ref qm_past, .int m_pastMany, .ref qm_images, .int m_filled, .ref qm_text, .int m_length, .ref qm_may, .ref qm_least, .ref qm_isCarried, .ref qm_list, .ref qm_nodes, .int o_31, .int o_32, .int o_33, .int o_34, .int o_35, .int m_isSent, .int m_isOld, .ref qm_kept, .ref qm_keptLow, .ref qm_keptHigh, .int m_keptMany, .ref qm_keptNodes, .ref qm_numbers, .ref qm_sums, .ref qm_commands, .int m_commandMany, .ref qm_held])), (qm_w, .inl (cI, 93, .inl m_w)), (qm_may, .inl (cZ, 18, .inl o_26)), (qm_least, .inl (cI, 9, .inl o_27)), (qm_isCarried, .inl (cZ, 18, .inl o_28)), (qm_list, .inl (cI, 18, .inl o_29)), (qm_nodes, .inl (cI, 41, .inl o_30)), (qm_sums, .inl (cI, 8, .inl o_36))] := hD
        refine lv_goto (tgt := 22) hx hb dX6_enoughRoom_41 (by decide) ?_
        exact ih22 x1 (x2 + (1 : Int32)) m_w o_26 o_27 o_28 o_29 o_30 o_31 o_32 o_33 o_34 o_35 o_36 _ _ _ hP hD hS (lv_sub hl [1, 2, 0] rfl) h
  refine lv_aload_n hx hb dX6_enoughRoom_0 rfl (lv_at hl 0 rfl) ?_
  refine lv_iconst (v := (0 : Int32)) hx hb dX6_enoughRoom_1 (by decide) ?_
  refine lv_bipush (v := (18 : Int32)) hx hb dX6_enoughRoom_2 (by decide) ?_
  obtain ⟨⟨o_1, o_2, o_3, o_4, o_5, o_6, o_7, o_8, o_9, o_10, o_11⟩, hc_12, h⟩ := ob_bind h
  dsimp only at h
  refine k_callVV (qb := 0) [0, 1, 2, 3, 4, 5, 6, 7] [0, 2, 3, 4, 5, 6, 7] [0, 2, 3, 4, 5, 6, 7] [(qm, .inr (6, [.ref qm_w, .ref qm_past, .int m_pastMany, .ref qm_images, .int m_filled, .ref qm_text, .int m_length, .ref qm_may, .ref qm_least, .ref qm_isCarried, .ref qm_list, .ref qm_nodes, .int o_6, .int o_7, .int o_8, .int o_9, .int o_10, .int m_isSent, .int m_isOld, .ref qm_kept, .ref qm_keptLow, .ref qm_keptHigh, .int m_keptMany, .ref qm_keptNodes, .ref qm_numbers, .ref qm_sums, .ref qm_commands, .int m_commandMany, .ref qm_held])), (qm_may, .inl (cZ, 18, .inl o_1)), (qm_least, .inl (cI, 9, .inl o_2)), (qm_isCarried, .inl (cZ, 18, .inl o_3)), (qm_list, .inl (cI, 18, .inl o_4)), (qm_nodes, .inl (cI, 41, .inl o_5)), (qm_sums, .inl (cI, 8, .inl o_11))] (As := [.int (0 : Int32), .int (18 : Int32)]) (rest := []) ⟨hx, hb, hml, hown, hts⟩ hT hZ hA hP hD hS (c_X6_layAll l D cI cZ cN aK aV qm qm_w qm_past qm_images qm_text qm_may qm_least qm_isCarried qm_list qm_nodes qm_kept qm_keptLow qm_keptHigh qm_keptNodes qm_numbers qm_sums qm_commands qm_held m_w m_pastMany m_filled m_length m_may m_least m_isCarried m_list m_nodes m_listMany m_went m_cost m_cause m_looks m_isSent m_isOld m_keptMany m_sums m_commandMany (0 : Int32) (18 : Int32) o_1 o_2 o_3 o_4 o_5 o_6 o_7 o_8 o_9 o_10 o_11 hc_12) ⟨callB_of 2 hts (k_good u_961) rfl rfl rfl (hu _ u_51) (hu _ u_958) (by decide +kernel) ⟨Nat.le_of_ble_eq_true rfl, Nat.le_of_ble_eq_true rfl⟩, hu _ u_960, hu _ u_37⟩ rfl rfl rfl (by decide) (by decide) (by decide) rfl rfl rfl rfl hl.1 rfl (Nat.le_of_ble_eq_true rfl) dX6_enoughRoom_4 (fun H locs hP hD hS => ?_)
  have hP : va_P D vwCl [(qm, .inr (6, [.ref qm_w, .ref qm_past, .int m_pastMany, .ref qm_images, .int m_filled, .ref qm_text, .int m_length, .ref qm_may, .ref qm_least, .ref qm_isCarried, .ref qm_list, .ref qm_nodes, .int o_6, .int o_7, .int o_8, .int o_9, .int o_10, .int m_isSent, .int m_isOld, .ref qm_kept, .ref qm_keptLow, .ref qm_keptHigh, .int m_keptMany, .ref qm_keptNodes, .ref qm_numbers, .ref qm_sums, .ref qm_commands, .int m_commandMany, .ref qm_held])), (qm_w, .inl (cI, 93, .inl m_w)), (qm_may, .inl (cZ, 18, .inl o_1)), (qm_least, .inl (cI, 9, .inl o_2)), (qm_isCarried, .inl (cZ, 18, .inl o_3)), (qm_list, .inl (cI, 18, .inl o_4)), (qm_nodes, .inl (cI, 41, .inl o_5)), (qm_sums, .inl (cI, 8, .inl o_11))] H := hP
  have hD : va_D A [(qm, .inr (6, [.ref qm_w, .ref qm_past, .int m_pastMany, .ref qm_images, .int m_filled, .ref qm_text, .int m_length, .ref qm_may, .ref qm_least, .ref qm_isCarried, .ref qm_list, .ref qm_nodes, .int o_6, .int o_7, .int o_8, .int o_9, .int o_10, .int m_isSent, .int m_isOld, .ref qm_kept, .ref qm_keptLow, .ref qm_keptHigh, .int m_keptMany, .ref qm_keptNodes, .ref qm_numbers, .ref qm_sums, .ref qm_commands, .int m_commandMany, .ref qm_held])), (qm_w, .inl (cI, 93, .inl m_w)), (qm_may, .inl (cZ, 18, .inl o_1)), (qm_least, .inl (cI, 9, .inl o_2)), (qm_isCarried, .inl (cZ, 18, .inl o_3)), (qm_list, .inl (cI, 18, .inl o_4)), (qm_nodes, .inl (cI, 41, .inl o_5)), (qm_sums, .inl (cI, 8, .inl o_11))] := hD
  refine lv_aload_n hx hb dX6_enoughRoom_7 rfl (lv_at hl 0 rfl) ?_
  refine va_get (D := D) (ci := 6) (v := .ref qm_sums) (C := RX6) (T := TX6) (N := 29) hx hb hu k_iX6 hown hK hP 0 rfl rfl 25 (by decide) (hu _ u_743) (fun _ h9 => h9) rfl dX6_enoughRoom_8 ?_
  refine lv_iconst (v := (1 : Int32)) hx hb dX6_enoughRoom_11 (by decide) ?_
  refine va_iald (D := D) hx hb hK hP 7 0 rfl rfl (inb_in (by decide)) dX6_enoughRoom_12 ?_
  refine lv_istore_n (lv' := [(1, .int (o_11 (Int32.toNatClampNeg (1 : Int32)))), (0, .ref qm)]) hx hb dX6_enoughRoom_13 rfl hl (by decide) rfl (fun ls hl => ?_)
  refine lv_iconst (v := (0 : Int32)) hx hb dX6_enoughRoom_14 (by decide) ?_
  refine lv_istore_n (lv' := [(2, .int (0 : Int32)), (1, .int (o_11 (Int32.toNatClampNeg (1 : Int32)))), (0, .ref qm)]) hx hb dX6_enoughRoom_15 rfl hl (by decide) rfl (fun ls hl => ?_)
  refine lv_aload_n hx hb dX6_enoughRoom_16 rfl (lv_at hl 2 rfl) ?_
  refine lv_iconst (v := (0 : Int32)) hx hb dX6_enoughRoom_17 (by decide) ?_
  refine lv_iload_n hx hb dX6_enoughRoom_18 rfl (lv_at hl 0 rfl) ?_
  obtain ⟨⟨o_13, o_14, o_15, o_16, o_17, o_18, o_19, o_20, o_21, o_22, o_23⟩, hc_24, h⟩ := ob_bind h
  dsimp only at h
  refine k_callVV (qb := 0) [0, 1, 2, 3, 4, 5, 6, 7] [0, 2, 3, 4, 5, 6, 7] [0, 2, 3, 4, 5, 6, 7] [(qm, .inr (6, [.ref qm_w, .ref qm_past, .int m_pastMany, .ref qm_images, .int m_filled, .ref qm_text, .int m_length, .ref qm_may, .ref qm_least, .ref qm_isCarried, .ref qm_list, .ref qm_nodes, .int o_18, .int o_19, .int o_20, .int o_21, .int o_22, .int m_isSent, .int m_isOld, .ref qm_kept, .ref qm_keptLow, .ref qm_keptHigh, .int m_keptMany, .ref qm_keptNodes, .ref qm_numbers, .ref qm_sums, .ref qm_commands, .int m_commandMany, .ref qm_held])), (qm_may, .inl (cZ, 18, .inl o_13)), (qm_least, .inl (cI, 9, .inl o_14)), (qm_isCarried, .inl (cZ, 18, .inl o_15)), (qm_list, .inl (cI, 18, .inl o_16)), (qm_nodes, .inl (cI, 41, .inl o_17)), (qm_sums, .inl (cI, 8, .inl o_23))] (As := [.int (0 : Int32), .int (0 : Int32)]) (rest := []) ⟨hx, hb, hml, hown, hts⟩ hT hZ hA hP hD hS (c_X6_layAll l D cI cZ cN aK aV qm qm_w qm_past qm_images qm_text qm_may qm_least qm_isCarried qm_list qm_nodes qm_kept qm_keptLow qm_keptHigh qm_keptNodes qm_numbers qm_sums qm_commands qm_held m_w m_pastMany m_filled m_length o_1 o_2 o_3 o_4 o_5 o_6 o_7 o_8 o_9 o_10 m_isSent m_isOld m_keptMany o_11 m_commandMany (0 : Int32) (0 : Int32) o_13 o_14 o_15 o_16 o_17 o_18 o_19 o_20 o_21 o_22 o_23 hc_24) ⟨callB_of 2 hts (k_good u_961) rfl rfl rfl (hu _ u_51) (hu _ u_958) (by decide +kernel) ⟨Nat.le_of_ble_eq_true rfl, Nat.le_of_ble_eq_true rfl⟩, hu _ u_960, hu _ u_37⟩ rfl rfl rfl (by decide) (by decide) (by decide) rfl rfl rfl rfl hl.1 rfl (Nat.le_of_ble_eq_true rfl) dX6_enoughRoom_19 (fun H locs hP hD hS => ?_)
  have hP : va_P D vwCl [(qm, .inr (6, [.ref qm_w, .ref qm_past, .int m_pastMany, .ref qm_images, .int m_filled, .ref qm_text, .int m_length, .ref qm_may, .ref qm_least, .ref qm_isCarried, .ref qm_list, .ref qm_nodes, .int o_18, .int o_19, .int o_20, .int o_21, .int o_22, .int m_isSent, .int m_isOld, .ref qm_kept, .ref qm_keptLow, .ref qm_keptHigh, .int m_keptMany, .ref qm_keptNodes, .ref qm_numbers, .ref qm_sums, .ref qm_commands, .int m_commandMany, .ref qm_held])), (qm_w, .inl (cI, 93, .inl m_w)), (qm_may, .inl (cZ, 18, .inl o_13)), (qm_least, .inl (cI, 9, .inl o_14)), (qm_isCarried, .inl (cZ, 18, .inl o_15)), (qm_list, .inl (cI, 18, .inl o_16)), (qm_nodes, .inl (cI, 41, .inl o_17)), (qm_sums, .inl (cI, 8, .inl o_23))] H := hP
  have hD : va_D A [(qm, .inr (6, [.ref qm_w, .ref qm_past, .int m_pastMany, .ref qm_images, .int m_filled, .ref qm_text, .int m_length, .ref qm_may, .ref qm_least, .ref qm_isCarried, .ref qm_list, .ref qm_nodes, .int o_18, .int o_19, .int o_20, .int o_21, .int o_22, .int m_isSent, .int m_isOld, .ref qm_kept, .ref qm_keptLow, .ref qm_keptHigh, .int m_keptMany, .ref qm_keptNodes, .ref qm_numbers, .ref qm_sums, .ref qm_commands, .int m_commandMany, .ref qm_held])), (qm_w, .inl (cI, 93, .inl m_w)), (qm_may, .inl (cZ, 18, .inl o_13)), (qm_least, .inl (cI, 9, .inl o_14)), (qm_isCarried, .inl (cZ, 18, .inl o_15)), (qm_list, .inl (cI, 18, .inl o_16)), (qm_nodes, .inl (cI, 41, .inl o_17)), (qm_sums, .inl (cI, 8, .inl o_23))] := hD
  exact w22 1000 (o_11 (Int32.toNatClampNeg (1 : Int32))) (0 : Int32) m_w o_13 o_14 o_15 o_16 o_17 o_18 o_19 o_20 o_21 o_22 o_23 _ _ _ hP hD hS (lv_sub hl [2, 1, 0] rfl) h
