def f_X6_otherEnd (p1 : Int32) (p2 : Int32) (m_w : (Nat → Int32)) : Option (Int32) :=
  (f_X6_of p1 (0 : Int32) m_w).bind fun r_1 =>
  if r_1 = p2 then
    (f_X6_of p1 (1 : Int32) m_w).bind fun r_9 =>
    some (r_9)
  else
    (f_X6_of p1 (1 : Int32) m_w).bind fun r_4 =>
    if r_4 = p2 then
      (f_X6_of p1 (0 : Int32) m_w).bind fun r_7 =>
      some (r_7)
    else
      some ((-9 : Int32))
set_option maxHeartbeats 4000000 in
set_option maxRecDepth 100000 in
theorem c_X6_otherEnd (l : Launch) (D : va_G) (cI cZ cN : ClassId) (aK aV : Nat → Nat)  (qm : Nat) (qm_w : Nat) (qm_past : Nat) (qm_images : Nat) (qm_text : Nat) (qm_may : Nat) (qm_least : Nat) (qm_isCarried : Nat) (qm_list : Nat) (qm_nodes : Nat) (qm_kept : Nat) (qm_keptLow : Nat) (qm_keptHigh : Nat) (qm_keptNodes : Nat) (qm_numbers : Nat) (qm_sums : Nat) (qm_commands : Nat) (qm_held : Nat) (m_w : (Nat → Int32)) (m_pastMany : Int32) (m_filled : Int32) (m_length : Int32) (m_listMany : Int32) (m_went : Int32) (m_cost : Int32) (m_cause : Int32) (m_looks : Int32) (m_isSent : Int32) (m_isOld : Int32) (m_keptMany : Int32) (m_commandMany : Int32) (p1 p2 : Int32) (r : Int32) (h : f_X6_otherEnd p1 p2 m_w = some r) : CtI l D cI cZ cN aK aV yX6_otherEnd (k_W yX6_otherEnd cX6_otherEnd 3 (some .int)) { frames := 1, cells := 0, slots := 0, locals := 22 } [.ref qm, .int p1, .int p2] [(qm, .inr (6, [.ref qm_w, .ref qm_past, .int m_pastMany, .ref qm_images, .int m_filled, .ref qm_text, .int m_length, .ref qm_may, .ref qm_least, .ref qm_isCarried, .ref qm_list, .ref qm_nodes, .int m_listMany, .int m_went, .int m_cost, .int m_cause, .int m_looks, .int m_isSent, .int m_isOld, .ref qm_kept, .ref qm_keptLow, .ref qm_keptHigh, .int m_keptMany, .ref qm_keptNodes, .ref qm_numbers, .ref qm_sums, .ref qm_commands, .int m_commandMany, .ref qm_held])), (qm_w, .inl (cI, 93, .inl m_w))] r [(qm, .inr (6, [.ref qm_w, .ref qm_past, .int m_pastMany, .ref qm_images, .int m_filled, .ref qm_text, .int m_length, .ref qm_may, .ref qm_least, .ref qm_isCarried, .ref qm_list, .ref qm_nodes, .int m_listMany, .int m_went, .int m_cost, .int m_cause, .int m_looks, .int m_isSent, .int m_isOld, .ref qm_kept, .ref qm_keptLow, .ref qm_keptHigh, .int m_keptMany, .ref qm_keptNodes, .ref qm_numbers, .ref qm_sums, .ref qm_commands, .int m_commandMany, .ref qm_held])), (qm_w, .inl (cI, 93, .inl m_w))] := by
  refine k_startI (by decide) (Nat.le_of_ble_eq_true rfl) ?_
  intro p e s m below meth c A ls hx hb hr hml hown hts hlocks hT hZ hA hP hD hS hl
  have hK := hT.1
  have hu : ∀ w ∈ k_U, w.before ([.ref qm, .int p1, .int p2] : List Value).toArray s = true := fun w h => hts w (List.mem_cons_of_mem _ h)
  have hown : s.vm.findClass RX6 = some m.cls := hown
  have hl : lv_has ls 3 [(0, .ref qm), (1, .int p1), (2, .int p2)] := hl
  unfold f_X6_otherEnd at h
  refine lv_aload_n hx hb dX6_otherEnd_0 rfl (lv_at hl 0 rfl) ?_
  refine lv_iload_n hx hb dX6_otherEnd_1 rfl (lv_at hl 1 rfl) ?_
  refine lv_iconst (v := (0 : Int32)) hx hb dX6_otherEnd_2 (by decide) ?_
  obtain ⟨r_1, hc_2, h⟩ := ob_bind h
  refine k_callVIr (qb := 0) [0, 1] (As := [.int p1, .int (0 : Int32)]) (rest := []) ⟨hx, hb, hml, hown, hts⟩ hT hZ hA hP hD hS (c_X6_of l D cI cZ cN aK aV qm qm_w qm_past qm_images qm_text qm_may qm_least qm_isCarried qm_list qm_nodes qm_kept qm_keptLow qm_keptHigh qm_keptNodes qm_numbers qm_sums qm_commands qm_held m_w m_pastMany m_filled m_length m_listMany m_went m_cost m_cause m_looks m_isSent m_isOld m_keptMany m_commandMany p1 (0 : Int32) r_1 hc_2) ⟨callB_of 2 hts (k_good u_840) rfl rfl rfl (hu _ u_51) (hu _ u_837) (by decide +kernel) ⟨Nat.le_of_ble_eq_true rfl, Nat.le_of_ble_eq_true rfl⟩, hu _ u_839, hu _ u_23⟩ rfl rfl rfl (by decide) rfl hl.1 rfl (Nat.le_of_ble_eq_true rfl) dX6_otherEnd_3 (fun H locs hP hD hS => ?_)
  refine lv_iload_n hx hb dX6_otherEnd_6 rfl (lv_at hl 2 rfl) ?_
  refine lv_icmp_ne (tgt := 19) hx hb dX6_otherEnd_7 (by decide) (fun cc_3 => ?_) (fun cc_3 => ?_)
  · have h := (if_neg cc_3).symm.trans h
    refine lv_aload_n hx hb dX6_otherEnd_19 rfl (lv_at hl 0 rfl) ?_
    refine lv_iload_n hx hb dX6_otherEnd_20 rfl (lv_at hl 1 rfl) ?_
    refine lv_iconst (v := (1 : Int32)) hx hb dX6_otherEnd_21 (by decide) ?_
    obtain ⟨r_4, hc_5, h⟩ := ob_bind h
    refine k_callVIr (qb := 0) [0, 1] (As := [.int p1, .int (1 : Int32)]) (rest := []) ⟨hx, hb, hml, hown, hts⟩ hT hZ hA hP hD hS (c_X6_of l D cI cZ cN aK aV qm qm_w qm_past qm_images qm_text qm_may qm_least qm_isCarried qm_list qm_nodes qm_kept qm_keptLow qm_keptHigh qm_keptNodes qm_numbers qm_sums qm_commands qm_held m_w m_pastMany m_filled m_length m_listMany m_went m_cost m_cause m_looks m_isSent m_isOld m_keptMany m_commandMany p1 (1 : Int32) r_4 hc_5) ⟨callB_of 2 hts (k_good u_840) rfl rfl rfl (hu _ u_51) (hu _ u_837) (by decide +kernel) ⟨Nat.le_of_ble_eq_true rfl, Nat.le_of_ble_eq_true rfl⟩, hu _ u_839, hu _ u_23⟩ rfl rfl rfl (by decide) rfl hl.1 rfl (Nat.le_of_ble_eq_true rfl) dX6_otherEnd_22 (fun H locs hP hD hS => ?_)
    refine lv_iload_n hx hb dX6_otherEnd_25 rfl (lv_at hl 2 rfl) ?_
    refine lv_icmp_ne (tgt := 38) hx hb dX6_otherEnd_26 (by decide) (fun cc_6 => ?_) (fun cc_6 => ?_)
    · have h := (if_neg cc_6).symm.trans h
      refine lv_bipush (v := (-9 : Int32)) hx hb dX6_otherEnd_38 (by decide) ?_
      have hq := Option.some.inj h
      clear h
      subst hq
      exact k_retI hx hb hr hlocks hP hD hS dX6_otherEnd_40
    · have h := (if_pos cc_6).symm.trans h
      refine lv_aload_n hx hb dX6_otherEnd_29 rfl (lv_at hl 0 rfl) ?_
      refine lv_iload_n hx hb dX6_otherEnd_30 rfl (lv_at hl 1 rfl) ?_
      refine lv_iconst (v := (0 : Int32)) hx hb dX6_otherEnd_31 (by decide) ?_
      obtain ⟨r_7, hc_8, h⟩ := ob_bind h
      refine k_callVIr (qb := 0) [0, 1] (As := [.int p1, .int (0 : Int32)]) (rest := []) ⟨hx, hb, hml, hown, hts⟩ hT hZ hA hP hD hS (c_X6_of l D cI cZ cN aK aV qm qm_w qm_past qm_images qm_text qm_may qm_least qm_isCarried qm_list qm_nodes qm_kept qm_keptLow qm_keptHigh qm_keptNodes qm_numbers qm_sums qm_commands qm_held m_w m_pastMany m_filled m_length m_listMany m_went m_cost m_cause m_looks m_isSent m_isOld m_keptMany m_commandMany p1 (0 : Int32) r_7 hc_8) ⟨callB_of 2 hts (k_good u_840) rfl rfl rfl (hu _ u_51) (hu _ u_837) (by decide +kernel) ⟨Nat.le_of_ble_eq_true rfl, Nat.le_of_ble_eq_true rfl⟩, hu _ u_839, hu _ u_23⟩ rfl rfl rfl (by decide) rfl hl.1 rfl (Nat.le_of_ble_eq_true rfl) dX6_otherEnd_32 (fun H locs hP hD hS => ?_)
      refine lv_goto (tgt := 40) hx hb dX6_otherEnd_35 (by decide) ?_
      have hq := Option.some.inj h
      clear h
      subst hq
      exact k_retI hx hb hr hlocks hP hD hS dX6_otherEnd_40
  · have h := (if_pos cc_3).symm.trans h
    refine lv_aload_n hx hb dX6_otherEnd_10 rfl (lv_at hl 0 rfl) ?_
    refine lv_iload_n hx hb dX6_otherEnd_11 rfl (lv_at hl 1 rfl) ?_
    refine lv_iconst (v := (1 : Int32)) hx hb dX6_otherEnd_12 (by decide) ?_
    obtain ⟨r_9, hc_10, h⟩ := ob_bind h
    refine k_callVIr (qb := 0) [0, 1] (As := [.int p1, .int (1 : Int32)]) (rest := []) ⟨hx, hb, hml, hown, hts⟩ hT hZ hA hP hD hS (c_X6_of l D cI cZ cN aK aV qm qm_w qm_past qm_images qm_text qm_may qm_least qm_isCarried qm_list qm_nodes qm_kept qm_keptLow qm_keptHigh qm_keptNodes qm_numbers qm_sums qm_commands qm_held m_w m_pastMany m_filled m_length m_listMany m_went m_cost m_cause m_looks m_isSent m_isOld m_keptMany m_commandMany p1 (1 : Int32) r_9 hc_10) ⟨callB_of 2 hts (k_good u_840) rfl rfl rfl (hu _ u_51) (hu _ u_837) (by decide +kernel) ⟨Nat.le_of_ble_eq_true rfl, Nat.le_of_ble_eq_true rfl⟩, hu _ u_839, hu _ u_23⟩ rfl rfl rfl (by decide) rfl hl.1 rfl (Nat.le_of_ble_eq_true rfl) dX6_otherEnd_13 (fun H locs hP hD hS => ?_)
    refine lv_goto (tgt := 40) hx hb dX6_otherEnd_16 (by decide) ?_
    have hq := Option.some.inj h
    clear h
    subst hq
    exact k_retI hx hb hr hlocks hP hD hS dX6_otherEnd_40
def f_X6_layLeast_b135 (k41 : Int32 → Int32 → (Nat → Int32) → (Nat → Int32) → (Nat → Int32) → Option ((Nat → Int32))) (x2 : Int32) (x3 : Int32) (x4 : Int32) (x5 : Int32) (x6 : Int32) (s0 : Int32) (s1 : Int32) (m_w : (Nat → Int32)) (m_may : (Nat → Int32)) (m_least : (Nat → Int32)) : Option ((Nat → Int32)) :=
  if inb s1 9 = true then
  if inb x5 9 = true then
  if inb x6 9 = true then
  if ((upd m_least (Int32.toNatClampNeg s1) s0) (Int32.toNatClampNeg x6)) ≤ (((upd m_least (Int32.toNatClampNeg s1) s0) (Int32.toNatClampNeg x5)) + x4) then
    k41 x2 (x3 + (1 : Int32)) m_w m_may (upd (upd m_least (Int32.toNatClampNeg s1) s0) (Int32.toNatClampNeg x6) ((upd m_least (Int32.toNatClampNeg s1) s0) (Int32.toNatClampNeg x6)))
  else
    k41 x2 (x3 + (1 : Int32)) m_w m_may (upd (upd m_least (Int32.toNatClampNeg s1) s0) (Int32.toNatClampNeg x6) (((upd m_least (Int32.toNatClampNeg s1) s0) (Int32.toNatClampNeg x5)) + x4))
  else none
  else none
  else none
def f_X6_layLeast_b41 (k33 : Int32 → (Nat → Int32) → (Nat → Int32) → (Nat → Int32) → Option ((Nat → Int32))) : Nat → Int32 → Int32 → (Nat → Int32) → (Nat → Int32) → (Nat → Int32) → Option ((Nat → Int32))
  | 0, _, _, _, _, _ => none
  | n + 1, x2, x3, m_w, m_may, m_least =>
    if (m_w (Int32.toNatClampNeg (1 : Int32))) ≤ x3 then
      k33 (x2 + (1 : Int32)) m_w m_may m_least
    else
      if inb x3 18 = true then
      if (m_may (Int32.toNatClampNeg x3)) = (0 : Int32) then
        (f_X6_layLeast_b41 k33 n) x2 (x3 + (1 : Int32)) m_w m_may m_least
      else
        (f_X6_of x3 (2 : Int32) m_w).bind fun r_9 =>
        (f_X6_of x3 (0 : Int32) m_w).bind fun r_11 =>
        (f_X6_of x3 (1 : Int32) m_w).bind fun r_13 =>
        if inb r_13 9 = true then
        if inb r_11 9 = true then
        if (m_least (Int32.toNatClampNeg r_11)) ≤ ((m_least (Int32.toNatClampNeg r_13)) + (((16 : Int32) * r_9) + (1 : Int32))) then
          f_X6_layLeast_b135 (f_X6_layLeast_b41 k33 n) x2 x3 (((16 : Int32) * r_9) + (1 : Int32)) r_11 r_13 (m_least (Int32.toNatClampNeg r_11)) r_11 m_w m_may m_least
        else
          f_X6_layLeast_b135 (f_X6_layLeast_b41 k33 n) x2 x3 (((16 : Int32) * r_9) + (1 : Int32)) r_11 r_13 ((m_least (Int32.toNatClampNeg r_13)) + (((16 : Int32) * r_9) + (1 : Int32))) r_11 m_w m_may m_least
        else none
        else none
      else none
def f_X6_layLeast_b33  : Nat → Int32 → (Nat → Int32) → (Nat → Int32) → (Nat → Int32) → Option ((Nat → Int32))
  | 0, _, _, _, _ => none
  | n + 1, x2, m_w, m_may, m_least =>
    if (9 : Int32) ≤ x2 then
      some (m_least)
    else
      f_X6_layLeast_b41 (f_X6_layLeast_b33 n) 1000 x2 (0 : Int32) m_w m_may m_least
def f_X6_layLeast_b2  : Nat → Int32 → Int32 → (Nat → Int32) → (Nat → Int32) → (Nat → Int32) → Option ((Nat → Int32))
  | 0, _, _, _, _, _ => none
  | n + 1, x1, x2, m_w, m_may, m_least =>
    if (9 : Int32) ≤ x2 then
      f_X6_layLeast_b33 1000 (0 : Int32) m_w m_may m_least
    else
      if x2 = x1 then
        if inb x2 9 = true then
        (f_X6_layLeast_b2 n) x1 (x2 + (1 : Int32)) m_w m_may (upd m_least (Int32.toNatClampNeg x2) (0 : Int32))
        else none
      else
        if inb x2 9 = true then
        (f_X6_layLeast_b2 n) x1 (x2 + (1 : Int32)) m_w m_may (upd m_least (Int32.toNatClampNeg x2) (1000000 : Int32))
        else none
def f_X6_layLeast (p1 : Int32) (m_w : (Nat → Int32)) (m_may : (Nat → Int32)) (m_least : (Nat → Int32)) : Option ((Nat → Int32)) :=
  f_X6_layLeast_b2 1000 p1 (0 : Int32) m_w m_may m_least
set_option maxHeartbeats 4000000 in
set_option maxRecDepth 100000 in
theorem c_X6_layLeast (l : Launch) (D : va_G) (cI cZ cN : ClassId) (aK aV : Nat → Nat)  (qm : Nat) (qm_w : Nat) (qm_past : Nat) (qm_images : Nat) (qm_text : Nat) (qm_may : Nat) (qm_least : Nat) (qm_isCarried : Nat) (qm_list : Nat) (qm_nodes : Nat) (qm_kept : Nat) (qm_keptLow : Nat) (qm_keptHigh : Nat) (qm_keptNodes : Nat) (qm_numbers : Nat) (qm_sums : Nat) (qm_commands : Nat) (qm_held : Nat) (m_w : (Nat → Int32)) (m_pastMany : Int32) (m_filled : Int32) (m_length : Int32) (m_may : (Nat → Int32)) (m_least : (Nat → Int32)) (m_listMany : Int32) (m_went : Int32) (m_cost : Int32) (m_cause : Int32) (m_looks : Int32) (m_isSent : Int32) (m_isOld : Int32) (m_keptMany : Int32) (m_commandMany : Int32) (p1 : Int32) (z_m_least : (Nat → Int32)) (h : f_X6_layLeast p1 m_w m_may m_least = some z_m_least) : CtV l D cI cZ cN aK aV yX6_layLeast (k_W yX6_layLeast cX6_layLeast 7 none) { frames := 1, cells := 0, slots := 0, locals := 22 } [.ref qm, .int p1] [(qm, .inr (6, [.ref qm_w, .ref qm_past, .int m_pastMany, .ref qm_images, .int m_filled, .ref qm_text, .int m_length, .ref qm_may, .ref qm_least, .ref qm_isCarried, .ref qm_list, .ref qm_nodes, .int m_listMany, .int m_went, .int m_cost, .int m_cause, .int m_looks, .int m_isSent, .int m_isOld, .ref qm_kept, .ref qm_keptLow, .ref qm_keptHigh, .int m_keptMany, .ref qm_keptNodes, .ref qm_numbers, .ref qm_sums, .ref qm_commands, .int m_commandMany, .ref qm_held])), (qm_w, .inl (cI, 93, .inl m_w)), (qm_may, .inl (cZ, 18, .inl m_may)), (qm_least, .inl (cI, 9, .inl m_least))] [(qm, .inr (6, [.ref qm_w, .ref qm_past, .int m_pastMany, .ref qm_images, .int m_filled, .ref qm_text, .int m_length, .ref qm_may, .ref qm_least, .ref qm_isCarried, .ref qm_list, .ref qm_nodes, .int m_listMany, .int m_went, .int m_cost, .int m_cause, .int m_looks, .int m_isSent, .int m_isOld, .ref qm_kept, .ref qm_keptLow, .ref qm_keptHigh, .int m_keptMany, .ref qm_keptNodes, .ref qm_numbers, .ref qm_sums, .ref qm_commands, .int m_commandMany, .ref qm_held])), (qm_w, .inl (cI, 93, .inl m_w)), (qm_may, .inl (cZ, 18, .inl m_may)), (qm_least, .inl (cI, 9, .inl z_m_least))] := by
  refine k_startV (by decide) (Nat.le_of_ble_eq_true rfl) ?_
  intro p e s m below meth c A ls hx hb hr hml hown hts hlocks hT hZ hA hP hD hS hl
  have hK := hT.1
  have hu : ∀ w ∈ k_U, w.before ([.ref qm, .int p1] : List Value).toArray s = true := fun w h => hts w (List.mem_cons_of_mem _ h)
  have hown : s.vm.findClass RX6 = some m.cls := hown
  have hl : lv_has ls 7 [(0, .ref qm), (1, .int p1)] := hl
  unfold f_X6_layLeast at h
  have w2 : ∀ (n2 : Nat) (x1 : Int32) (x2 : Int32) (m_w : (Nat → Int32)) (m_may : (Nat → Int32)) (m_least : (Nat → Int32)) (H : Heap) (locs : List Loc) (ls : Array Slot), va_P D vwCl [(qm, .inr (6, [.ref qm_w, .ref qm_past, .int m_pastMany, .ref qm_images, .int m_filled, .ref qm_text, .int m_length, .ref qm_may, .ref qm_least, .ref qm_isCarried, .ref qm_list, .ref qm_nodes, .int m_listMany, .int m_went, .int m_cost, .int m_cause, .int m_looks, .int m_isSent, .int m_isOld, .ref qm_kept, .ref qm_keptLow, .ref qm_keptHigh, .int m_keptMany, .ref qm_keptNodes, .ref qm_numbers, .ref qm_sums, .ref qm_commands, .int m_commandMany, .ref qm_held])), (qm_w, .inl (cI, 93, .inl m_w)), (qm_may, .inl (cZ, 18, .inl m_may)), (qm_least, .inl (cI, 9, .inl m_least))] H → va_D A [(qm, .inr (6, [.ref qm_w, .ref qm_past, .int m_pastMany, .ref qm_images, .int m_filled, .ref qm_text, .int m_length, .ref qm_may, .ref qm_least, .ref qm_isCarried, .ref qm_list, .ref qm_nodes, .int m_listMany, .int m_went, .int m_cost, .int m_cause, .int m_looks, .int m_isSent, .int m_isOld, .ref qm_kept, .ref qm_keptLow, .ref qm_keptHigh, .int m_keptMany, .ref qm_keptNodes, .ref qm_numbers, .ref qm_sums, .ref qm_commands, .int m_commandMany, .ref qm_held])), (qm_w, .inl (cI, 93, .inl m_w)), (qm_may, .inl (cZ, 18, .inl m_may)), (qm_least, .inl (cI, 9, .inl m_least))] → va_S A s.heap H locs → lv_has ls 7 [(0, .ref qm), (1, .int x1), (2, .int x2)] → f_X6_layLeast_b2 n2 x1 x2 m_w m_may m_least = some z_m_least → W p l e { frames := 1, cells := 0, slots := 0, locals := 22 } s m ([.ref qm, .int p1] : List Value).toArray below meth c H locs 0 0 (MQ below (k_QV D [(qm, .inr (6, [.ref qm_w, .ref qm_past, .int m_pastMany, .ref qm_images, .int m_filled, .ref qm_text, .int m_length, .ref qm_may, .ref qm_least, .ref qm_isCarried, .ref qm_list, .ref qm_nodes, .int m_listMany, .int m_went, .int m_cost, .int m_cause, .int m_looks, .int m_isSent, .int m_isOld, .ref qm_kept, .ref qm_keptLow, .ref qm_keptHigh, .int m_keptMany, .ref qm_keptNodes, .ref qm_numbers, .ref qm_sums, .ref qm_commands, .int m_commandMany, .ref qm_held])), (qm_w, .inl (cI, 93, .inl m_w)), (qm_may, .inl (cZ, 18, .inl m_may)), (qm_least, .inl (cI, 9, .inl z_m_least))] A) ([.ref qm, .int p1] : List Value).toArray s 0 0 A) (F0 m 2 ls []) := by
    intro n2
    induction n2 with
    | zero =>
      intro x1 x2 m_w m_may m_least H locs ls hP hD hS hl h
      rw [f_X6_layLeast_b2] at h
      cases h
    | succ n2 ih2 =>
      intro x1 x2 m_w m_may m_least H locs ls hP hD hS hl h
      rw [f_X6_layLeast_b2] at h
      have w33 : ∀ (n33 : Nat) (x2 : Int32) (m_w : (Nat → Int32)) (m_may : (Nat → Int32)) (m_least : (Nat → Int32)) (H : Heap) (locs : List Loc) (ls : Array Slot), va_P D vwCl [(qm, .inr (6, [.ref qm_w, .ref qm_past, .int m_pastMany, .ref qm_images, .int m_filled, .ref qm_text, .int m_length, .ref qm_may, .ref qm_least, .ref qm_isCarried, .ref qm_list, .ref qm_nodes, .int m_listMany, .int m_went, .int m_cost, .int m_cause, .int m_looks, .int m_isSent, .int m_isOld, .ref qm_kept, .ref qm_keptLow, .ref qm_keptHigh, .int m_keptMany, .ref qm_keptNodes, .ref qm_numbers, .ref qm_sums, .ref qm_commands, .int m_commandMany, .ref qm_held])), (qm_w, .inl (cI, 93, .inl m_w)), (qm_may, .inl (cZ, 18, .inl m_may)), (qm_least, .inl (cI, 9, .inl m_least))] H → va_D A [(qm, .inr (6, [.ref qm_w, .ref qm_past, .int m_pastMany, .ref qm_images, .int m_filled, .ref qm_text, .int m_length, .ref qm_may, .ref qm_least, .ref qm_isCarried, .ref qm_list, .ref qm_nodes, .int m_listMany, .int m_went, .int m_cost, .int m_cause, .int m_looks, .int m_isSent, .int m_isOld, .ref qm_kept, .ref qm_keptLow, .ref qm_keptHigh, .int m_keptMany, .ref qm_keptNodes, .ref qm_numbers, .ref qm_sums, .ref qm_commands, .int m_commandMany, .ref qm_held])), (qm_w, .inl (cI, 93, .inl m_w)), (qm_may, .inl (cZ, 18, .inl m_may)), (qm_least, .inl (cI, 9, .inl m_least))] → va_S A s.heap H locs → lv_has ls 7 [(0, .ref qm), (2, .int x2)] → f_X6_layLeast_b33 n33 x2 m_w m_may m_least = some z_m_least → W p l e { frames := 1, cells := 0, slots := 0, locals := 22 } s m ([.ref qm, .int p1] : List Value).toArray below meth c H locs 0 0 (MQ below (k_QV D [(qm, .inr (6, [.ref qm_w, .ref qm_past, .int m_pastMany, .ref qm_images, .int m_filled, .ref qm_text, .int m_length, .ref qm_may, .ref qm_least, .ref qm_isCarried, .ref qm_list, .ref qm_nodes, .int m_listMany, .int m_went, .int m_cost, .int m_cause, .int m_looks, .int m_isSent, .int m_isOld, .ref qm_kept, .ref qm_keptLow, .ref qm_keptHigh, .int m_keptMany, .ref qm_keptNodes, .ref qm_numbers, .ref qm_sums, .ref qm_commands, .int m_commandMany, .ref qm_held])), (qm_w, .inl (cI, 93, .inl m_w)), (qm_may, .inl (cZ, 18, .inl m_may)), (qm_least, .inl (cI, 9, .inl z_m_least))] A) ([.ref qm, .int p1] : List Value).toArray s 0 0 A) (F0 m 33 ls []) := by
        intro n33
        induction n33 with
        | zero =>
          intro x2 m_w m_may m_least H locs ls hP hD hS hl h
          rw [f_X6_layLeast_b33] at h
          cases h
        | succ n33 ih33 =>
          intro x2 m_w m_may m_least H locs ls hP hD hS hl h
          rw [f_X6_layLeast_b33] at h
          have w41 : ∀ (n41 : Nat) (x2 : Int32) (x3 : Int32) (m_w : (Nat → Int32)) (m_may : (Nat → Int32)) (m_least : (Nat → Int32)) (H : Heap) (locs : List Loc) (ls : Array Slot), va_P D vwCl [(qm, .inr (6, [.ref qm_w, .ref qm_past, .int m_pastMany, .ref qm_images, .int m_filled, .ref qm_text, .int m_length, .ref qm_may, .ref qm_least, .ref qm_isCarried, .ref qm_list, .ref qm_nodes, .int m_listMany, .int m_went, .int m_cost, .int m_cause, .int m_looks, .int m_isSent, .int m_isOld, .ref qm_kept, .ref qm_keptLow, .ref qm_keptHigh, .int m_keptMany, .ref qm_keptNodes, .ref qm_numbers, .ref qm_sums, .ref qm_commands, .int m_commandMany, .ref qm_held])), (qm_w, .inl (cI, 93, .inl m_w)), (qm_may, .inl (cZ, 18, .inl m_may)), (qm_least, .inl (cI, 9, .inl m_least))] H → va_D A [(qm, .inr (6, [.ref qm_w, .ref qm_past, .int m_pastMany, .ref qm_images, .int m_filled, .ref qm_text, .int m_length, .ref qm_may, .ref qm_least, .ref qm_isCarried, .ref qm_list, .ref qm_nodes, .int m_listMany, .int m_went, .int m_cost, .int m_cause, .int m_looks, .int m_isSent, .int m_isOld, .ref qm_kept, .ref qm_keptLow, .ref qm_keptHigh, .int m_keptMany, .ref qm_keptNodes, .ref qm_numbers, .ref qm_sums, .ref qm_commands, .int m_commandMany, .ref qm_held])), (qm_w, .inl (cI, 93, .inl m_w)), (qm_may, .inl (cZ, 18, .inl m_may)), (qm_least, .inl (cI, 9, .inl m_least))] → va_S A s.heap H locs → lv_has ls 7 [(0, .ref qm), (2, .int x2), (3, .int x3)] → f_X6_layLeast_b41 (f_X6_layLeast_b33 n33) n41 x2 x3 m_w m_may m_least = some z_m_least → W p l e { frames := 1, cells := 0, slots := 0, locals := 22 } s m ([.ref qm, .int p1] : List Value).toArray below meth c H locs 0 0 (MQ below (k_QV D [(qm, .inr (6, [.ref qm_w, .ref qm_past, .int m_pastMany, .ref qm_images, .int m_filled, .ref qm_text, .int m_length, .ref qm_may, .ref qm_least, .ref qm_isCarried, .ref qm_list, .ref qm_nodes, .int m_listMany, .int m_went, .int m_cost, .int m_cause, .int m_looks, .int m_isSent, .int m_isOld, .ref qm_kept, .ref qm_keptLow, .ref qm_keptHigh, .int m_keptMany, .ref qm_keptNodes, .ref qm_numbers, .ref qm_sums, .ref qm_commands, .int m_commandMany, .ref qm_held])), (qm_w, .inl (cI, 93, .inl m_w)), (qm_may, .inl (cZ, 18, .inl m_may)), (qm_least, .inl (cI, 9, .inl z_m_least))] A) ([.ref qm, .int p1] : List Value).toArray s 0 0 A) (F0 m 41 ls []) := by
            intro n41
            induction n41 with
            | zero =>
              intro x2 x3 m_w m_may m_least H locs ls hP hD hS hl h
              rw [f_X6_layLeast_b41] at h
              cases h
            | succ n41 ih41 =>
              intro x2 x3 m_w m_may m_least H locs ls hP hD hS hl h
              rw [f_X6_layLeast_b41] at h
              have w135 : ∀  (x2 : Int32) (x3 : Int32) (x4 : Int32) (x5 : Int32) (x6 : Int32) (s0 : Int32) (s1 : Int32) (m_w : (Nat → Int32)) (m_may : (Nat → Int32)) (m_least : (Nat → Int32)) (H : Heap) (locs : List Loc) (ls : Array Slot), va_P D vwCl [(qm, .inr (6, [.ref qm_w, .ref qm_past, .int m_pastMany, .ref qm_images, .int m_filled, .ref qm_text, .int m_length, .ref qm_may, .ref qm_least, .ref qm_isCarried, .ref qm_list, .ref qm_nodes, .int m_listMany, .int m_went, .int m_cost, .int m_cause, .int m_looks, .int m_isSent, .int m_isOld, .ref qm_kept, .ref qm_keptLow, .ref qm_keptHigh, .int m_keptMany, .ref qm_keptNodes, .ref qm_numbers, .ref qm_sums, .ref qm_commands, .int m_commandMany, .ref qm_held])), (qm_w, .inl (cI, 93, .inl m_w)), (qm_may, .inl (cZ, 18, .inl m_may)), (qm_least, .inl (cI, 9, .inl m_least))] H → va_D A [(qm, .inr (6, [.ref qm_w, .ref qm_past, .int m_pastMany, .ref qm_images, .int m_filled, .ref qm_text, .int m_length, .ref qm_may, .ref qm_least, .ref qm_isCarried, .ref qm_list, .ref qm_nodes, .int m_listMany, .int m_went, .int m_cost, .int m_cause, .int m_looks, .int m_isSent, .int m_isOld, .ref qm_kept, .ref qm_keptLow, .ref qm_keptHigh, .int m_keptMany, .ref qm_keptNodes, .ref qm_numbers, .ref qm_sums, .ref qm_commands, .int m_commandMany, .ref qm_held])), (qm_w, .inl (cI, 93, .inl m_w)), (qm_may, .inl (cZ, 18, .inl m_may)), (qm_least, .inl (cI, 9, .inl m_least))] → va_S A s.heap H locs → lv_has ls 7 [(0, .ref qm), (2, .int x2), (3, .int x3), (4, .int x4), (5, .int x5), (6, .int x6)] → f_X6_layLeast_b135 (f_X6_layLeast_b41 (f_X6_layLeast_b33 n33) n41) x2 x3 x4 x5 x6 s0 s1 m_w m_may m_least = some z_m_least → W p l e { frames := 1, cells := 0, slots := 0, locals := 22 } s m ([.ref qm, .int p1] : List Value).toArray below meth c H locs 0 0 (MQ below (k_QV D [(qm, .inr (6, [.ref qm_w, .ref qm_past, .int m_pastMany, .ref qm_images, .int m_filled, .ref qm_text, .int m_length, .ref qm_may, .ref qm_least, .ref qm_isCarried, .ref qm_list, .ref qm_nodes, .int m_listMany, .int m_went, .int m_cost, .int m_cause, .int m_looks, .int m_isSent, .int m_isOld, .ref qm_kept, .ref qm_keptLow, .ref qm_keptHigh, .int m_keptMany, .ref qm_keptNodes, .ref qm_numbers, .ref qm_sums, .ref qm_commands, .int m_commandMany, .ref qm_held])), (qm_w, .inl (cI, 93, .inl m_w)), (qm_may, .inl (cZ, 18, .inl m_may)), (qm_least, .inl (cI, 9, .inl z_m_least))] A) ([.ref qm, .int p1] : List Value).toArray s 0 0 A) (F0 m 135 ls [.int s0, .int s1, .ref qm_least]) := by
                intro x2 x3 x4 x5 x6 s0 s1 m_w m_may m_least H locs ls hP hD hS hl h
                unfold f_X6_layLeast_b135 at h
                obtain ⟨hin_18, h⟩ := ob_if h
                have hin_18 := inb_in hin_18
                refine va_iast (D := D) hx hb hK hP hD hS 3 0 rfl rfl hin_18 dX6_layLeast_135 (fun H locs hP hD hS => ?_)
                have hP : va_P D vwCl [(qm, .inr (6, [.ref qm_w, .ref qm_past, .int m_pastMany, .ref qm_images, .int m_filled, .ref qm_text, .int m_length, .ref qm_may, .ref qm_least, .ref qm_isCarried, .ref qm_list, .ref qm_nodes, .int m_listMany, .int m_went, .int m_cost, .int m_cause, .int m_looks, .int m_isSent, .int m_isOld, .ref qm_kept, .ref qm_keptLow, .ref qm_keptHigh, .int m_keptMany, .ref qm_keptNodes, .ref qm_numbers, .ref qm_sums, .ref qm_commands, .int m_commandMany, .ref qm_held])), (qm_w, .inl (cI, 93, .inl m_w)), (qm_may, .inl (cZ, 18, .inl m_may)), (qm_least, .inl (cI, 9, .inl (upd m_least (Int32.toNatClampNeg s1) s0)))] H := hP
                have hD : va_D A [(qm, .inr (6, [.ref qm_w, .ref qm_past, .int m_pastMany, .ref qm_images, .int m_filled, .ref qm_text, .int m_length, .ref qm_may, .ref qm_least, .ref qm_isCarried, .ref qm_list, .ref qm_nodes, .int m_listMany, .int m_went, .int m_cost, .int m_cause, .int m_looks, .int m_isSent, .int m_isOld, .ref qm_kept, .ref qm_keptLow, .ref qm_keptHigh, .int m_keptMany, .ref qm_keptNodes, .ref qm_numbers, .ref qm_sums, .ref qm_commands, .int m_commandMany, .ref qm_held])), (qm_w, .inl (cI, 93, .inl m_w)), (qm_may, .inl (cZ, 18, .inl m_may)), (qm_least, .inl (cI, 9, .inl (upd m_least (Int32.toNatClampNeg s1) s0)))] := hD
                refine lv_aload_n hx hb dX6_layLeast_136 rfl (lv_at hl 0 rfl) ?_
                refine va_get (D := D) (ci := 6) (v := .ref qm_least) (C := RX6) (T := TX6) (N := 29) hx hb hu k_iX6 hown hK hP 0 rfl rfl 8 (by decide) (hu _ u_726) (fun _ h9 => h9) rfl dX6_layLeast_137 ?_
                refine lv_iload hx hb dX6_layLeast_140 (lv_at hl 5 rfl) ?_
                refine lv_aload_n hx hb dX6_layLeast_142 rfl (lv_at hl 0 rfl) ?_
                refine va_get (D := D) (ci := 6) (v := .ref qm_least) (C := RX6) (T := TX6) (N := 29) hx hb hu k_iX6 hown hK hP 0 rfl rfl 8 (by decide) (hu _ u_726) (fun _ h9 => h9) rfl dX6_layLeast_143 ?_
                refine lv_iload hx hb dX6_layLeast_146 (lv_at hl 4 rfl) ?_
                obtain ⟨hin_19, h⟩ := ob_if h
                have hin_19 := inb_in hin_19
                refine va_iald (D := D) hx hb hK hP 3 0 rfl rfl hin_19 dX6_layLeast_148 ?_
                refine lv_iload hx hb dX6_layLeast_149 (lv_at hl 3 rfl) ?_
                refine lv_iadd hx hb dX6_layLeast_151 ?_
                refine lv_aload_n hx hb dX6_layLeast_152 rfl (lv_at hl 0 rfl) ?_
                refine va_get (D := D) (ci := 6) (v := .ref qm_least) (C := RX6) (T := TX6) (N := 29) hx hb hu k_iX6 hown hK hP 0 rfl rfl 8 (by decide) (hu _ u_726) (fun _ h9 => h9) rfl dX6_layLeast_153 ?_
                refine lv_iload hx hb dX6_layLeast_156 (lv_at hl 5 rfl) ?_
                obtain ⟨hin_20, h⟩ := ob_if h
                have hin_20 := inb_in hin_20
                refine va_iald (D := D) hx hb hK hP 3 0 rfl rfl hin_20 dX6_layLeast_158 ?_
                refine lv_icmp_ge (tgt := 175) hx hb dX6_layLeast_159 (by decide) (fun cc_21 => ?_) (fun cc_21 => ?_)
                · have h := (if_pos cc_21).symm.trans h
                  refine lv_aload_n hx hb dX6_layLeast_175 rfl (lv_at hl 0 rfl) ?_
                  refine va_get (D := D) (ci := 6) (v := .ref qm_least) (C := RX6) (T := TX6) (N := 29) hx hb hu k_iX6 hown hK hP 0 rfl rfl 8 (by decide) (hu _ u_726) (fun _ h9 => h9) rfl dX6_layLeast_176 ?_
                  refine lv_iload hx hb dX6_layLeast_179 (lv_at hl 5 rfl) ?_
                  refine va_iald (D := D) hx hb hK hP 3 0 rfl rfl hin_20 dX6_layLeast_181 ?_
                  refine va_iast (D := D) hx hb hK hP hD hS 3 0 rfl rfl hin_20 dX6_layLeast_182 (fun H locs hP hD hS => ?_)
                  have hP : va_P D vwCl [(qm, .inr (6, [.ref qm_w, .ref qm_past, .int m_pastMany, .ref qm_images, .int m_filled, .ref qm_text, .int m_length, .ref qm_may, .ref qm_least, .ref qm_isCarried, .ref qm_list, .ref qm_nodes, .int m_listMany, .int m_went, .int m_cost, .int m_cause, .int m_looks, .int m_isSent, .int m_isOld, .ref qm_kept, .ref qm_keptLow, .ref qm_keptHigh, .int m_keptMany, .ref qm_keptNodes, .ref qm_numbers, .ref qm_sums, .ref qm_commands, .int m_commandMany, .ref qm_held])), (qm_w, .inl (cI, 93, .inl m_w)), (qm_may, .inl (cZ, 18, .inl m_may)), (qm_least, .inl (cI, 9, .inl (upd (upd m_least (Int32.toNatClampNeg s1) s0) (Int32.toNatClampNeg x6) ((upd m_least (Int32.toNatClampNeg s1) s0) (Int32.toNatClampNeg x6)))))] H := hP
                  have hD : va_D A [(qm, .inr (6, [.ref qm_w, .ref qm_past, .int m_pastMany, .ref qm_images, .int m_filled, .ref qm_text, .int m_length, .ref qm_may, .ref qm_least, .ref qm_isCarried, .ref qm_list, .ref qm_nodes, .int m_listMany, .int m_went, .int m_cost, .int m_cause, .int m_looks, .int m_isSent, .int m_isOld, .ref qm_kept, .ref qm_keptLow, .ref qm_keptHigh, .int m_keptMany, .ref qm_keptNodes, .ref qm_numbers, .ref qm_sums, .ref qm_commands, .int m_commandMany, .ref qm_held])), (qm_w, .inl (cI, 93, .inl m_w)), (qm_may, .inl (cZ, 18, .inl m_may)), (qm_least, .inl (cI, 9, .inl (upd (upd m_least (Int32.toNatClampNeg s1) s0) (Int32.toNatClampNeg x6) ((upd m_least (Int32.toNatClampNeg s1) s0) (Int32.toNatClampNeg x6)))))] := hD
                  refine lv_iinc (v := (x3 + (1 : Int32))) (lv' := [(3, .int (x3 + (1 : Int32))), (0, .ref qm), (2, .int x2), (4, .int x4), (5, .int x5), (6, .int x6)]) hx hb dX6_layLeast_183 hl (k := 2) rfl rfl (by decide) rfl (fun ls hl => ?_)
                  refine lv_goto (tgt := 41) hx hb dX6_layLeast_186 (by decide) ?_
                  exact ih41 x2 (x3 + (1 : Int32)) m_w m_may (upd (upd m_least (Int32.toNatClampNeg s1) s0) (Int32.toNatClampNeg x6) ((upd m_least (Int32.toNatClampNeg s1) s0) (Int32.toNatClampNeg x6))) _ _ _ hP hD hS (lv_sub hl [1, 2, 0] rfl) h
                · have h := (if_neg cc_21).symm.trans h
                  refine lv_aload_n hx hb dX6_layLeast_162 rfl (lv_at hl 0 rfl) ?_
                  refine va_get (D := D) (ci := 6) (v := .ref qm_least) (C := RX6) (T := TX6) (N := 29) hx hb hu k_iX6 hown hK hP 0 rfl rfl 8 (by decide) (hu _ u_726) (fun _ h9 => h9) rfl dX6_layLeast_163 ?_
                  refine lv_iload hx hb dX6_layLeast_166 (lv_at hl 4 rfl) ?_
                  refine va_iald (D := D) hx hb hK hP 3 0 rfl rfl hin_19 dX6_layLeast_168 ?_
                  refine lv_iload hx hb dX6_layLeast_169 (lv_at hl 3 rfl) ?_
                  refine lv_iadd hx hb dX6_layLeast_171 ?_
                  refine lv_goto (tgt := 182) hx hb dX6_layLeast_172 (by decide) ?_
                  refine va_iast (D := D) hx hb hK hP hD hS 3 0 rfl rfl hin_20 dX6_layLeast_182 (fun H locs hP hD hS => ?_)
                  have hP : va_P D vwCl [(qm, .inr (6, [.ref qm_w, .ref qm_past, .int m_pastMany, .ref qm_images, .int m_filled, .ref qm_text, .int m_length, .ref qm_may, .ref qm_least, .ref qm_isCarried, .ref qm_list, .ref qm_nodes, .int m_listMany, .int m_went, .int m_cost, .int m_cause, .int m_looks, .int m_isSent, .int m_isOld, .ref qm_kept, .ref qm_keptLow, .ref qm_keptHigh, .int m_keptMany, .ref qm_keptNodes, .ref qm_numbers, .ref qm_sums, .ref qm_commands, .int m_commandMany, .ref qm_held])), (qm_w, .inl (cI, 93, .inl m_w)), (qm_may, .inl (cZ, 18, .inl m_may)), (qm_least, .inl (cI, 9, .inl (upd (upd m_least (Int32.toNatClampNeg s1) s0) (Int32.toNatClampNeg x6) (((upd m_least (Int32.toNatClampNeg s1) s0) (Int32.toNatClampNeg x5)) + x4))))] H := hP
                  have hD : va_D A [(qm, .inr (6, [.ref qm_w, .ref qm_past, .int m_pastMany, .ref qm_images, .int m_filled, .ref qm_text, .int m_length, .ref qm_may, .ref qm_least, .ref qm_isCarried, .ref qm_list, .ref qm_nodes, .int m_listMany, .int m_went, .int m_cost, .int m_cause, .int m_looks, .int m_isSent, .int m_isOld, .ref qm_kept, .ref qm_keptLow, .ref qm_keptHigh, .int m_keptMany, .ref qm_keptNodes, .ref qm_numbers, .ref qm_sums, .ref qm_commands, .int m_commandMany, .ref qm_held])), (qm_w, .inl (cI, 93, .inl m_w)), (qm_may, .inl (cZ, 18, .inl m_may)), (qm_least, .inl (cI, 9, .inl (upd (upd m_least (Int32.toNatClampNeg s1) s0) (Int32.toNatClampNeg x6) (((upd m_least (Int32.toNatClampNeg s1) s0) (Int32.toNatClampNeg x5)) + x4))))] := hD
                  refine lv_iinc (v := (x3 + (1 : Int32))) (lv' := [(3, .int (x3 + (1 : Int32))), (0, .ref qm), (2, .int x2), (4, .int x4), (5, .int x5), (6, .int x6)]) hx hb dX6_layLeast_183 hl (k := 2) rfl rfl (by decide) rfl (fun ls hl => ?_)
                  refine lv_goto (tgt := 41) hx hb dX6_layLeast_186 (by decide) ?_
                  exact ih41 x2 (x3 + (1 : Int32)) m_w m_may (upd (upd m_least (Int32.toNatClampNeg s1) s0) (Int32.toNatClampNeg x6) (((upd m_least (Int32.toNatClampNeg s1) s0) (Int32.toNatClampNeg x5)) + x4)) _ _ _ hP hD hS (lv_sub hl [1, 2, 0] rfl) h
              refine lv_iload_n hx hb dX6_layLeast_41 rfl (lv_at hl 2 rfl) ?_
              refine lv_aload_n hx hb dX6_layLeast_42 rfl (lv_at hl 0 rfl) ?_
              refine va_get (D := D) (ci := 6) (v := .ref qm_w) (C := RX6) (T := TX6) (N := 29) hx hb hu k_iX6 hown hK hP 0 rfl rfl 0 (by decide) (hu _ u_718) (fun _ h9 => h9) rfl dX6_layLeast_43 ?_
              refine lv_iconst (v := (1 : Int32)) hx hb dX6_layLeast_46 (by decide) ?_
              refine va_iald (D := D) hx hb hK hP 1 0 rfl rfl (inb_in (by decide)) dX6_layLeast_47 ?_
              refine lv_icmp_ge (tgt := 189) hx hb dX6_layLeast_48 (by decide) (fun cc_6 => ?_) (fun cc_6 => ?_)
              · have h := (if_pos cc_6).symm.trans h
                refine lv_iinc (v := (x2 + (1 : Int32))) (lv' := [(2, .int (x2 + (1 : Int32))), (0, .ref qm), (3, .int x3)]) hx hb dX6_layLeast_189 hl (k := 1) rfl rfl (by decide) rfl (fun ls hl => ?_)
                refine lv_goto (tgt := 33) hx hb dX6_layLeast_192 (by decide) ?_
                exact ih33 (x2 + (1 : Int32)) m_w m_may m_least _ _ _ hP hD hS (lv_sub hl [1, 0] rfl) h
              · have h := (if_neg cc_6).symm.trans h
                refine lv_aload_n hx hb dX6_layLeast_51 rfl (lv_at hl 0 rfl) ?_
                refine va_get (D := D) (ci := 6) (v := .ref qm_may) (C := RX6) (T := TX6) (N := 29) hx hb hu k_iX6 hown hK hP 0 rfl rfl 7 (by decide) (hu _ u_725) (fun _ h9 => h9) rfl dX6_layLeast_52 ?_
                refine lv_iload_n hx hb dX6_layLeast_55 rfl (lv_at hl 2 rfl) ?_
                obtain ⟨hin_7, h⟩ := ob_if h
                have hin_7 := inb_in hin_7
                refine va_zald (D := D) hx hb hK hP 2 1 rfl rfl hin_7 dX6_layLeast_56 ?_
                refine lv_if_eq (tgt := 183) hx hb dX6_layLeast_57 (by decide) (fun cc_8 => ?_) (fun cc_8 => ?_)
                · have h := (if_pos cc_8).symm.trans h
                  refine lv_iinc (v := (x3 + (1 : Int32))) (lv' := [(3, .int (x3 + (1 : Int32))), (0, .ref qm), (2, .int x2)]) hx hb dX6_layLeast_183 hl (k := 2) rfl rfl (by decide) rfl (fun ls hl => ?_)
                  refine lv_goto (tgt := 41) hx hb dX6_layLeast_186 (by decide) ?_
                  exact ih41 x2 (x3 + (1 : Int32)) m_w m_may m_least _ _ _ hP hD hS (lv_sub hl [1, 2, 0] rfl) h
                · have h := (if_neg cc_8).symm.trans h
                  refine lv_bipush (v := (16 : Int32)) hx hb dX6_layLeast_60 (by decide) ?_
                  refine lv_aload_n hx hb dX6_layLeast_62 rfl (lv_at hl 0 rfl) ?_
                  refine lv_iload_n hx hb dX6_layLeast_63 rfl (lv_at hl 2 rfl) ?_
                  refine lv_iconst (v := (2 : Int32)) hx hb dX6_layLeast_64 (by decide) ?_
                  obtain ⟨r_9, hc_10, h⟩ := ob_bind h
                  refine k_callVIr (qb := 0) [0, 1] (As := [.int x3, .int (2 : Int32)]) (rest := [.int (16 : Int32)]) ⟨hx, hb, hml, hown, hts⟩ hT hZ hA hP hD hS (c_X6_of l D cI cZ cN aK aV qm qm_w qm_past qm_images qm_text qm_may qm_least qm_isCarried qm_list qm_nodes qm_kept qm_keptLow qm_keptHigh qm_keptNodes qm_numbers qm_sums qm_commands qm_held m_w m_pastMany m_filled m_length m_listMany m_went m_cost m_cause m_looks m_isSent m_isOld m_keptMany m_commandMany x3 (2 : Int32) r_9 hc_10) ⟨callB_of 2 hts (k_good u_840) rfl rfl rfl (hu _ u_51) (hu _ u_837) (by decide +kernel) ⟨Nat.le_of_ble_eq_true rfl, Nat.le_of_ble_eq_true rfl⟩, hu _ u_839, hu _ u_23⟩ rfl rfl rfl (by decide) rfl hl.1 rfl (Nat.le_of_ble_eq_true rfl) dX6_layLeast_65 (fun H locs hP hD hS => ?_)
                  refine lv_imul hx hb dX6_layLeast_68 ?_
                  refine lv_iconst (v := (1 : Int32)) hx hb dX6_layLeast_69 (by decide) ?_
                  refine lv_iadd hx hb dX6_layLeast_70 ?_
                  refine lv_istore (lv' := [(4, .int (((16 : Int32) * r_9) + (1 : Int32))), (0, .ref qm), (2, .int x2), (3, .int x3)]) hx hb dX6_layLeast_71 hl (by decide) rfl (fun ls hl => ?_)
                  refine lv_aload_n hx hb dX6_layLeast_73 rfl (lv_at hl 1 rfl) ?_
                  refine lv_iload_n hx hb dX6_layLeast_74 rfl (lv_at hl 3 rfl) ?_
                  refine lv_iconst (v := (0 : Int32)) hx hb dX6_layLeast_75 (by decide) ?_
                  obtain ⟨r_11, hc_12, h⟩ := ob_bind h
                  refine k_callVIr (qb := 0) [0, 1] (As := [.int x3, .int (0 : Int32)]) (rest := []) ⟨hx, hb, hml, hown, hts⟩ hT hZ hA hP hD hS (c_X6_of l D cI cZ cN aK aV qm qm_w qm_past qm_images qm_text qm_may qm_least qm_isCarried qm_list qm_nodes qm_kept qm_keptLow qm_keptHigh qm_keptNodes qm_numbers qm_sums qm_commands qm_held m_w m_pastMany m_filled m_length m_listMany m_went m_cost m_cause m_looks m_isSent m_isOld m_keptMany m_commandMany x3 (0 : Int32) r_11 hc_12) ⟨callB_of 2 hts (k_good u_840) rfl rfl rfl (hu _ u_51) (hu _ u_837) (by decide +kernel) ⟨Nat.le_of_ble_eq_true rfl, Nat.le_of_ble_eq_true rfl⟩, hu _ u_839, hu _ u_23⟩ rfl rfl rfl (by decide) rfl hl.1 rfl (Nat.le_of_ble_eq_true rfl) dX6_layLeast_76 (fun H locs hP hD hS => ?_)
                  refine lv_istore (lv' := [(5, .int r_11), (4, .int (((16 : Int32) * r_9) + (1 : Int32))), (0, .ref qm), (2, .int x2), (3, .int x3)]) hx hb dX6_layLeast_79 hl (by decide) rfl (fun ls hl => ?_)
                  refine lv_aload_n hx hb dX6_layLeast_81 rfl (lv_at hl 2 rfl) ?_
                  refine lv_iload_n hx hb dX6_layLeast_82 rfl (lv_at hl 4 rfl) ?_
                  refine lv_iconst (v := (1 : Int32)) hx hb dX6_layLeast_83 (by decide) ?_
                  obtain ⟨r_13, hc_14, h⟩ := ob_bind h
                  refine k_callVIr (qb := 0) [0, 1] (As := [.int x3, .int (1 : Int32)]) (rest := []) ⟨hx, hb, hml, hown, hts⟩ hT hZ hA hP hD hS (c_X6_of l D cI cZ cN aK aV qm qm_w qm_past qm_images qm_text qm_may qm_least qm_isCarried qm_list qm_nodes qm_kept qm_keptLow qm_keptHigh qm_keptNodes qm_numbers qm_sums qm_commands qm_held m_w m_pastMany m_filled m_length m_listMany m_went m_cost m_cause m_looks m_isSent m_isOld m_keptMany m_commandMany x3 (1 : Int32) r_13 hc_14) ⟨callB_of 2 hts (k_good u_840) rfl rfl rfl (hu _ u_51) (hu _ u_837) (by decide +kernel) ⟨Nat.le_of_ble_eq_true rfl, Nat.le_of_ble_eq_true rfl⟩, hu _ u_839, hu _ u_23⟩ rfl rfl rfl (by decide) rfl hl.1 rfl (Nat.le_of_ble_eq_true rfl) dX6_layLeast_84 (fun H locs hP hD hS => ?_)
                  refine lv_istore (lv' := [(6, .int r_13), (5, .int r_11), (4, .int (((16 : Int32) * r_9) + (1 : Int32))), (0, .ref qm), (2, .int x2), (3, .int x3)]) hx hb dX6_layLeast_87 hl (by decide) rfl (fun ls hl => ?_)
                  refine lv_aload_n hx hb dX6_layLeast_89 rfl (lv_at hl 3 rfl) ?_
                  refine va_get (D := D) (ci := 6) (v := .ref qm_least) (C := RX6) (T := TX6) (N := 29) hx hb hu k_iX6 hown hK hP 0 rfl rfl 8 (by decide) (hu _ u_726) (fun _ h9 => h9) rfl dX6_layLeast_90 ?_
                  refine lv_iload hx hb dX6_layLeast_93 (lv_at hl 1 rfl) ?_
                  refine lv_aload_n hx hb dX6_layLeast_95 rfl (lv_at hl 3 rfl) ?_
                  refine va_get (D := D) (ci := 6) (v := .ref qm_least) (C := RX6) (T := TX6) (N := 29) hx hb hu k_iX6 hown hK hP 0 rfl rfl 8 (by decide) (hu _ u_726) (fun _ h9 => h9) rfl dX6_layLeast_96 ?_
                  refine lv_iload hx hb dX6_layLeast_99 (lv_at hl 0 rfl) ?_
                  obtain ⟨hin_15, h⟩ := ob_if h
                  have hin_15 := inb_in hin_15
                  refine va_iald (D := D) hx hb hK hP 3 0 rfl rfl hin_15 dX6_layLeast_101 ?_
                  refine lv_iload hx hb dX6_layLeast_102 (lv_at hl 2 rfl) ?_
                  refine lv_iadd hx hb dX6_layLeast_104 ?_
                  refine lv_aload_n hx hb dX6_layLeast_105 rfl (lv_at hl 3 rfl) ?_
                  refine va_get (D := D) (ci := 6) (v := .ref qm_least) (C := RX6) (T := TX6) (N := 29) hx hb hu k_iX6 hown hK hP 0 rfl rfl 8 (by decide) (hu _ u_726) (fun _ h9 => h9) rfl dX6_layLeast_106 ?_
                  refine lv_iload hx hb dX6_layLeast_109 (lv_at hl 1 rfl) ?_
                  obtain ⟨hin_16, h⟩ := ob_if h
                  have hin_16 := inb_in hin_16
                  refine va_iald (D := D) hx hb hK hP 3 0 rfl rfl hin_16 dX6_layLeast_111 ?_
                  refine lv_icmp_ge (tgt := 128) hx hb dX6_layLeast_112 (by decide) (fun cc_17 => ?_) (fun cc_17 => ?_)
                  · have h := (if_pos cc_17).symm.trans h
                    refine lv_aload_n hx hb dX6_layLeast_128 rfl (lv_at hl 3 rfl) ?_
                    refine va_get (D := D) (ci := 6) (v := .ref qm_least) (C := RX6) (T := TX6) (N := 29) hx hb hu k_iX6 hown hK hP 0 rfl rfl 8 (by decide) (hu _ u_726) (fun _ h9 => h9) rfl dX6_layLeast_129 ?_
                    refine lv_iload hx hb dX6_layLeast_132 (lv_at hl 1 rfl) ?_
                    refine va_iald (D := D) hx hb hK hP 3 0 rfl rfl hin_16 dX6_layLeast_134 ?_
                    exact w135 x2 x3 (((16 : Int32) * r_9) + (1 : Int32)) r_11 r_13 (m_least (Int32.toNatClampNeg r_11)) r_11 m_w m_may m_least _ _ _ hP hD hS (lv_sub hl [3, 4, 5, 2, 1, 0] rfl) h
                  · have h := (if_neg cc_17).symm.trans h
                    refine lv_aload_n hx hb dX6_layLeast_115 rfl (lv_at hl 3 rfl) ?_
                    refine va_get (D := D) (ci := 6) (v := .ref qm_least) (C := RX6) (T := TX6) (N := 29) hx hb hu k_iX6 hown hK hP 0 rfl rfl 8 (by decide) (hu _ u_726) (fun _ h9 => h9) rfl dX6_layLeast_116 ?_
                    refine lv_iload hx hb dX6_layLeast_119 (lv_at hl 0 rfl) ?_
                    refine va_iald (D := D) hx hb hK hP 3 0 rfl rfl hin_15 dX6_layLeast_121 ?_
                    refine lv_iload hx hb dX6_layLeast_122 (lv_at hl 2 rfl) ?_
                    refine lv_iadd hx hb dX6_layLeast_124 ?_
                    refine lv_goto (tgt := 135) hx hb dX6_layLeast_125 (by decide) ?_
                    exact w135 x2 x3 (((16 : Int32) * r_9) + (1 : Int32)) r_11 r_13 ((m_least (Int32.toNatClampNeg r_13)) + (((16 : Int32) * r_9) + (1 : Int32))) r_11 m_w m_may m_least _ _ _ hP hD hS (lv_sub hl [3, 4, 5, 2, 1, 0] rfl) h
          refine lv_iload_n hx hb dX6_layLeast_33 rfl (lv_at hl 1 rfl) ?_
          refine lv_bipush (v := (9 : Int32)) hx hb dX6_layLeast_34 (by decide) ?_
          refine lv_icmp_ge (tgt := 195) hx hb dX6_layLeast_36 (by decide) (fun cc_5 => ?_) (fun cc_5 => ?_)
          · have h := (if_pos cc_5).symm.trans h
            have hq := Option.some.inj h
            clear h
            subst hq
            exact k_retV hx hb hr hlocks hP hD hS dX6_layLeast_195
          · have h := (if_neg cc_5).symm.trans h
            refine lv_iconst (v := (0 : Int32)) hx hb dX6_layLeast_39 (by decide) ?_
            refine lv_istore_n (lv' := [(3, .int (0 : Int32)), (0, .ref qm), (2, .int x2)]) hx hb dX6_layLeast_40 rfl hl (by decide) rfl (fun ls hl => ?_)
            exact w41 1000 x2 (0 : Int32) m_w m_may m_least _ _ _ hP hD hS (lv_sub hl [1, 2, 0] rfl) h
      refine lv_iload_n hx hb dX6_layLeast_2 rfl (lv_at hl 2 rfl) ?_
      refine lv_bipush (v := (9 : Int32)) hx hb dX6_layLeast_3 (by decide) ?_
      refine lv_icmp_ge (tgt := 31) hx hb dX6_layLeast_5 (by decide) (fun cc_1 => ?_) (fun cc_1 => ?_)
      · have h := (if_pos cc_1).symm.trans h
        refine lv_iconst (v := (0 : Int32)) hx hb dX6_layLeast_31 (by decide) ?_
        refine lv_istore_n (lv' := [(2, .int (0 : Int32)), (0, .ref qm), (1, .int x1)]) hx hb dX6_layLeast_32 rfl hl (by decide) rfl (fun ls hl => ?_)
        exact w33 1000 (0 : Int32) m_w m_may m_least _ _ _ hP hD hS (lv_sub hl [1, 0] rfl) h
      · have h := (if_neg cc_1).symm.trans h
        refine lv_aload_n hx hb dX6_layLeast_8 rfl (lv_at hl 0 rfl) ?_
        refine va_get (D := D) (ci := 6) (v := .ref qm_least) (C := RX6) (T := TX6) (N := 29) hx hb hu k_iX6 hown hK hP 0 rfl rfl 8 (by decide) (hu _ u_726) (fun _ h9 => h9) rfl dX6_layLeast_9 ?_
        refine lv_iload_n hx hb dX6_layLeast_12 rfl (lv_at hl 2 rfl) ?_
        refine lv_iload_n hx hb dX6_layLeast_13 rfl (lv_at hl 2 rfl) ?_
        refine lv_iload_n hx hb dX6_layLeast_14 rfl (lv_at hl 1 rfl) ?_
        refine lv_icmp_ne (tgt := 22) hx hb dX6_layLeast_15 (by decide) (fun cc_2 => ?_) (fun cc_2 => ?_)
        · have h := (if_neg cc_2).symm.trans h
          refine lv_ldc (v := (1000000 : Int32)) hx hb hown (hu _ u_905) dX6_layLeast_22 ?_
          obtain ⟨hin_3, h⟩ := ob_if h
          have hin_3 := inb_in hin_3
          refine va_iast (D := D) hx hb hK hP hD hS 3 0 rfl rfl hin_3 dX6_layLeast_24 (fun H locs hP hD hS => ?_)
          have hP : va_P D vwCl [(qm, .inr (6, [.ref qm_w, .ref qm_past, .int m_pastMany, .ref qm_images, .int m_filled, .ref qm_text, .int m_length, .ref qm_may, .ref qm_least, .ref qm_isCarried, .ref qm_list, .ref qm_nodes, .int m_listMany, .int m_went, .int m_cost, .int m_cause, .int m_looks, .int m_isSent, .int m_isOld, .ref qm_kept, .ref qm_keptLow, .ref qm_keptHigh, .int m_keptMany, .ref qm_keptNodes, .ref qm_numbers, .ref qm_sums, .ref qm_commands, .int m_commandMany, .ref qm_held])), (qm_w, .inl (cI, 93, .inl m_w)), (qm_may, .inl (cZ, 18, .inl m_may)), (qm_least, .inl (cI, 9, .inl (upd m_least (Int32.toNatClampNeg x2) (1000000 : Int32))))] H := hP
          have hD : va_D A [(qm, .inr (6, [.ref qm_w, .ref qm_past, .int m_pastMany, .ref qm_images, .int m_filled, .ref qm_text, .int m_length, .ref qm_may, .ref qm_least, .ref qm_isCarried, .ref qm_list, .ref qm_nodes, .int m_listMany, .int m_went, .int m_cost, .int m_cause, .int m_looks, .int m_isSent, .int m_isOld, .ref qm_kept, .ref qm_keptLow, .ref qm_keptHigh, .int m_keptMany, .ref qm_keptNodes, .ref qm_numbers, .ref qm_sums, .ref qm_commands, .int m_commandMany, .ref qm_held])), (qm_w, .inl (cI, 93, .inl m_w)), (qm_may, .inl (cZ, 18, .inl m_may)), (qm_least, .inl (cI, 9, .inl (upd m_least (Int32.toNatClampNeg x2) (1000000 : Int32))))] := hD
          refine lv_iinc (v := (x2 + (1 : Int32))) (lv' := [(2, .int (x2 + (1 : Int32))), (0, .ref qm), (1, .int x1)]) hx hb dX6_layLeast_25 hl (k := 2) rfl rfl (by decide) rfl (fun ls hl => ?_)
          refine lv_goto (tgt := 2) hx hb dX6_layLeast_28 (by decide) ?_
          exact ih2 x1 (x2 + (1 : Int32)) m_w m_may (upd m_least (Int32.toNatClampNeg x2) (1000000 : Int32)) _ _ _ hP hD hS (lv_sub hl [1, 2, 0] rfl) h
        · have h := (if_pos cc_2).symm.trans h
          refine lv_iconst (v := (0 : Int32)) hx hb dX6_layLeast_18 (by decide) ?_
          refine lv_goto (tgt := 24) hx hb dX6_layLeast_19 (by decide) ?_
          obtain ⟨hin_4, h⟩ := ob_if h
          have hin_4 := inb_in hin_4
          refine va_iast (D := D) hx hb hK hP hD hS 3 0 rfl rfl hin_4 dX6_layLeast_24 (fun H locs hP hD hS => ?_)
          have hP : va_P D vwCl [(qm, .inr (6, [.ref qm_w, .ref qm_past, .int m_pastMany, .ref qm_images, .int m_filled, .ref qm_text, .int m_length, .ref qm_may, .ref qm_least, .ref qm_isCarried, .ref qm_list, .ref qm_nodes, .int m_listMany, .int m_went, .int m_cost, .int m_cause, .int m_looks, .int m_isSent, .int m_isOld, .ref qm_kept, .ref qm_keptLow, .ref qm_keptHigh, .int m_keptMany, .ref qm_keptNodes, .ref qm_numbers, .ref qm_sums, .ref qm_commands, .int m_commandMany, .ref qm_held])), (qm_w, .inl (cI, 93, .inl m_w)), (qm_may, .inl (cZ, 18, .inl m_may)), (qm_least, .inl (cI, 9, .inl (upd m_least (Int32.toNatClampNeg x2) (0 : Int32))))] H := hP
          have hD : va_D A [(qm, .inr (6, [.ref qm_w, .ref qm_past, .int m_pastMany, .ref qm_images, .int m_filled, .ref qm_text, .int m_length, .ref qm_may, .ref qm_least, .ref qm_isCarried, .ref qm_list, .ref qm_nodes, .int m_listMany, .int m_went, .int m_cost, .int m_cause, .int m_looks, .int m_isSent, .int m_isOld, .ref qm_kept, .ref qm_keptLow, .ref qm_keptHigh, .int m_keptMany, .ref qm_keptNodes, .ref qm_numbers, .ref qm_sums, .ref qm_commands, .int m_commandMany, .ref qm_held])), (qm_w, .inl (cI, 93, .inl m_w)), (qm_may, .inl (cZ, 18, .inl m_may)), (qm_least, .inl (cI, 9, .inl (upd m_least (Int32.toNatClampNeg x2) (0 : Int32))))] := hD
          refine lv_iinc (v := (x2 + (1 : Int32))) (lv' := [(2, .int (x2 + (1 : Int32))), (0, .ref qm), (1, .int x1)]) hx hb dX6_layLeast_25 hl (k := 2) rfl rfl (by decide) rfl (fun ls hl => ?_)
          refine lv_goto (tgt := 2) hx hb dX6_layLeast_28 (by decide) ?_
          exact ih2 x1 (x2 + (1 : Int32)) m_w m_may (upd m_least (Int32.toNatClampNeg x2) (0 : Int32)) _ _ _ hP hD hS (lv_sub hl [1, 2, 0] rfl) h
  refine lv_iconst (v := (0 : Int32)) hx hb dX6_layLeast_0 (by decide) ?_
  refine lv_istore_n (lv' := [(2, .int (0 : Int32)), (0, .ref qm), (1, .int p1)]) hx hb dX6_layLeast_1 rfl hl (by decide) rfl (fun ls hl => ?_)
  exact w2 1000 p1 (0 : Int32) m_w m_may m_least _ _ _ hP hD hS (lv_sub hl [1, 2, 0] rfl) h
def f_X6_firstLink_b5  : Nat → Int32 → Int32 → Int32 → (Nat → Int32) → (Nat → Int32) → (Nat → Int32) → Option (Int32)
  | 0, _, _, _, _, _, _ => none
  | n + 1, x1, x2, x3, m_w, m_may, m_least =>
    if (m_w (Int32.toNatClampNeg (1 : Int32))) ≤ x3 then
      some (x2)
    else
      (f_X6_otherEnd x3 x1 m_w).bind fun r_2 =>
      if inb x3 18 = true then
      if (m_may (Int32.toNatClampNeg x3)) = (0 : Int32) then
        (f_X6_firstLink_b5 n) x1 x2 (x3 + (1 : Int32)) m_w m_may m_least
      else
        if r_2 = (-9 : Int32) then
          (f_X6_firstLink_b5 n) x1 x2 (x3 + (1 : Int32)) m_w m_may m_least
        else
          if inb r_2 9 = true then
          (f_X6_of x3 (2 : Int32) m_w).bind fun r_8 =>
          if inb x1 9 = true then
          if (((m_least (Int32.toNatClampNeg r_2)) + ((16 : Int32) * r_8)) + (1 : Int32)) = (m_least (Int32.toNatClampNeg x1)) then
            if x2 = (-9 : Int32) then
              (f_X6_firstLink_b5 n) x1 x3 (x3 + (1 : Int32)) m_w m_may m_least
            else
              (f_X6_otherEnd x2 x1 m_w).bind fun r_13 =>
              if r_13 ≤ r_2 then
                (f_X6_firstLink_b5 n) x1 x2 (x3 + (1 : Int32)) m_w m_may m_least
              else
                (f_X6_firstLink_b5 n) x1 x3 (x3 + (1 : Int32)) m_w m_may m_least
          else
            (f_X6_firstLink_b5 n) x1 x2 (x3 + (1 : Int32)) m_w m_may m_least
          else none
          else none
      else none
def f_X6_firstLink (p1 : Int32) (m_w : (Nat → Int32)) (m_may : (Nat → Int32)) (m_least : (Nat → Int32)) : Option (Int32) :=
  f_X6_firstLink_b5 1000 p1 (-9 : Int32) (0 : Int32) m_w m_may m_least
set_option maxHeartbeats 4000000 in
set_option maxRecDepth 100000 in
theorem c_X6_firstLink (l : Launch) (D : va_G) (cI cZ cN : ClassId) (aK aV : Nat → Nat)  (qm : Nat) (qm_w : Nat) (qm_past : Nat) (qm_images : Nat) (qm_text : Nat) (qm_may : Nat) (qm_least : Nat) (qm_isCarried : Nat) (qm_list : Nat) (qm_nodes : Nat) (qm_kept : Nat) (qm_keptLow : Nat) (qm_keptHigh : Nat) (qm_keptNodes : Nat) (qm_numbers : Nat) (qm_sums : Nat) (qm_commands : Nat) (qm_held : Nat) (m_w : (Nat → Int32)) (m_pastMany : Int32) (m_filled : Int32) (m_length : Int32) (m_may : (Nat → Int32)) (m_least : (Nat → Int32)) (m_listMany : Int32) (m_went : Int32) (m_cost : Int32) (m_cause : Int32) (m_looks : Int32) (m_isSent : Int32) (m_isOld : Int32) (m_keptMany : Int32) (m_commandMany : Int32) (p1 : Int32) (r : Int32) (h : f_X6_firstLink p1 m_w m_may m_least = some r) : CtI l D cI cZ cN aK aV yX6_firstLink (k_W yX6_firstLink cX6_firstLink 5 (some .int)) { frames := 2, cells := 0, slots := 0, locals := 44 } [.ref qm, .int p1] [(qm, .inr (6, [.ref qm_w, .ref qm_past, .int m_pastMany, .ref qm_images, .int m_filled, .ref qm_text, .int m_length, .ref qm_may, .ref qm_least, .ref qm_isCarried, .ref qm_list, .ref qm_nodes, .int m_listMany, .int m_went, .int m_cost, .int m_cause, .int m_looks, .int m_isSent, .int m_isOld, .ref qm_kept, .ref qm_keptLow, .ref qm_keptHigh, .int m_keptMany, .ref qm_keptNodes, .ref qm_numbers, .ref qm_sums, .ref qm_commands, .int m_commandMany, .ref qm_held])), (qm_w, .inl (cI, 93, .inl m_w)), (qm_may, .inl (cZ, 18, .inl m_may)), (qm_least, .inl (cI, 9, .inl m_least))] r [(qm, .inr (6, [.ref qm_w, .ref qm_past, .int m_pastMany, .ref qm_images, .int m_filled, .ref qm_text, .int m_length, .ref qm_may, .ref qm_least, .ref qm_isCarried, .ref qm_list, .ref qm_nodes, .int m_listMany, .int m_went, .int m_cost, .int m_cause, .int m_looks, .int m_isSent, .int m_isOld, .ref qm_kept, .ref qm_keptLow, .ref qm_keptHigh, .int m_keptMany, .ref qm_keptNodes, .ref qm_numbers, .ref qm_sums, .ref qm_commands, .int m_commandMany, .ref qm_held])), (qm_w, .inl (cI, 93, .inl m_w)), (qm_may, .inl (cZ, 18, .inl m_may)), (qm_least, .inl (cI, 9, .inl m_least))] := by
  refine k_startI (by decide) (Nat.le_of_ble_eq_true rfl) ?_
  intro p e s m below meth c A ls hx hb hr hml hown hts hlocks hT hZ hA hP hD hS hl
  have hK := hT.1
  have hu : ∀ w ∈ k_U, w.before ([.ref qm, .int p1] : List Value).toArray s = true := fun w h => hts w (List.mem_cons_of_mem _ h)
  have hown : s.vm.findClass RX6 = some m.cls := hown
  have hl : lv_has ls 5 [(0, .ref qm), (1, .int p1)] := hl
  unfold f_X6_firstLink at h
  have w5 : ∀ (n5 : Nat) (x1 : Int32) (x2 : Int32) (x3 : Int32) (m_w : (Nat → Int32)) (m_may : (Nat → Int32)) (m_least : (Nat → Int32)) (H : Heap) (locs : List Loc) (ls : Array Slot), va_P D vwCl [(qm, .inr (6, [.ref qm_w, .ref qm_past, .int m_pastMany, .ref qm_images, .int m_filled, .ref qm_text, .int m_length, .ref qm_may, .ref qm_least, .ref qm_isCarried, .ref qm_list, .ref qm_nodes, .int m_listMany, .int m_went, .int m_cost, .int m_cause, .int m_looks, .int m_isSent, .int m_isOld, .ref qm_kept, .ref qm_keptLow, .ref qm_keptHigh, .int m_keptMany, .ref qm_keptNodes, .ref qm_numbers, .ref qm_sums, .ref qm_commands, .int m_commandMany, .ref qm_held])), (qm_w, .inl (cI, 93, .inl m_w)), (qm_may, .inl (cZ, 18, .inl m_may)), (qm_least, .inl (cI, 9, .inl m_least))] H → va_D A [(qm, .inr (6, [.ref qm_w, .ref qm_past, .int m_pastMany, .ref qm_images, .int m_filled, .ref qm_text, .int m_length, .ref qm_may, .ref qm_least, .ref qm_isCarried, .ref qm_list, .ref qm_nodes, .int m_listMany, .int m_went, .int m_cost, .int m_cause, .int m_looks, .int m_isSent, .int m_isOld, .ref qm_kept, .ref qm_keptLow, .ref qm_keptHigh, .int m_keptMany, .ref qm_keptNodes, .ref qm_numbers, .ref qm_sums, .ref qm_commands, .int m_commandMany, .ref qm_held])), (qm_w, .inl (cI, 93, .inl m_w)), (qm_may, .inl (cZ, 18, .inl m_may)), (qm_least, .inl (cI, 9, .inl m_least))] → va_S A s.heap H locs → lv_has ls 5 [(0, .ref qm), (1, .int x1), (2, .int x2), (3, .int x3)] → f_X6_firstLink_b5 n5 x1 x2 x3 m_w m_may m_least = some r → W p l e { frames := 2, cells := 0, slots := 0, locals := 44 } s m ([.ref qm, .int p1] : List Value).toArray below meth c H locs 0 0 (MQ below (k_QI D r [(qm, .inr (6, [.ref qm_w, .ref qm_past, .int m_pastMany, .ref qm_images, .int m_filled, .ref qm_text, .int m_length, .ref qm_may, .ref qm_least, .ref qm_isCarried, .ref qm_list, .ref qm_nodes, .int m_listMany, .int m_went, .int m_cost, .int m_cause, .int m_looks, .int m_isSent, .int m_isOld, .ref qm_kept, .ref qm_keptLow, .ref qm_keptHigh, .int m_keptMany, .ref qm_keptNodes, .ref qm_numbers, .ref qm_sums, .ref qm_commands, .int m_commandMany, .ref qm_held])), (qm_w, .inl (cI, 93, .inl m_w)), (qm_may, .inl (cZ, 18, .inl m_may)), (qm_least, .inl (cI, 9, .inl m_least))] A) ([.ref qm, .int p1] : List Value).toArray s 0 0 A) (F0 m 5 ls []) := by
    intro n5
    induction n5 with
    | zero =>
      intro x1 x2 x3 m_w m_may m_least H locs ls hP hD hS hl h
      rw [f_X6_firstLink_b5] at h
      cases h
    | succ n5 ih5 =>
      intro x1 x2 x3 m_w m_may m_least H locs ls hP hD hS hl h
      rw [f_X6_firstLink_b5] at h
      refine lv_iload_n hx hb dX6_firstLink_5 rfl (lv_at hl 3 rfl) ?_
      refine lv_aload_n hx hb dX6_firstLink_6 rfl (lv_at hl 0 rfl) ?_
      refine va_get (D := D) (ci := 6) (v := .ref qm_w) (C := RX6) (T := TX6) (N := 29) hx hb hu k_iX6 hown hK hP 0 rfl rfl 0 (by decide) (hu _ u_718) (fun _ h9 => h9) rfl dX6_firstLink_7 ?_
      refine lv_iconst (v := (1 : Int32)) hx hb dX6_firstLink_10 (by decide) ?_
      refine va_iald (D := D) hx hb hK hP 1 0 rfl rfl (inb_in (by decide)) dX6_firstLink_11 ?_
      refine lv_icmp_ge (tgt := 96) hx hb dX6_firstLink_12 (by decide) (fun cc_1 => ?_) (fun cc_1 => ?_)
      · have h := (if_pos cc_1).symm.trans h
        refine lv_iload_n hx hb dX6_firstLink_96 rfl (lv_at hl 2 rfl) ?_
        have hq := Option.some.inj h
        clear h
        subst hq
        exact k_retI hx hb hr hlocks hP hD hS dX6_firstLink_97
      · have h := (if_neg cc_1).symm.trans h
        refine lv_aload_n hx hb dX6_firstLink_15 rfl (lv_at hl 0 rfl) ?_
        refine lv_iload_n hx hb dX6_firstLink_16 rfl (lv_at hl 3 rfl) ?_
        refine lv_iload_n hx hb dX6_firstLink_17 rfl (lv_at hl 1 rfl) ?_
        obtain ⟨r_2, hc_3, h⟩ := ob_bind h
        refine k_callVIr (qb := 0) [0, 1] (As := [.int x3, .int x1]) (rest := []) ⟨hx, hb, hml, hown, hts⟩ hT hZ hA hP hD hS (c_X6_otherEnd l D cI cZ cN aK aV qm qm_w qm_past qm_images qm_text qm_may qm_least qm_isCarried qm_list qm_nodes qm_kept qm_keptLow qm_keptHigh qm_keptNodes qm_numbers qm_sums qm_commands qm_held m_w m_pastMany m_filled m_length m_listMany m_went m_cost m_cause m_looks m_isSent m_isOld m_keptMany m_commandMany x3 x1 r_2 hc_3) ⟨callB_of 2 hts (k_good u_929) rfl rfl rfl (hu _ u_51) (hu _ u_926) (by decide +kernel) ⟨Nat.le_of_ble_eq_true rfl, Nat.le_of_ble_eq_true rfl⟩, hu _ u_928, hu _ u_34⟩ rfl rfl rfl (by decide) rfl hl.1 rfl (Nat.le_of_ble_eq_true rfl) dX6_firstLink_18 (fun H locs hP hD hS => ?_)
        refine lv_istore (lv' := [(4, .int r_2), (0, .ref qm), (1, .int x1), (2, .int x2), (3, .int x3)]) hx hb dX6_firstLink_21 hl (by decide) rfl (fun ls hl => ?_)
        refine lv_aload_n hx hb dX6_firstLink_23 rfl (lv_at hl 1 rfl) ?_
        refine va_get (D := D) (ci := 6) (v := .ref qm_may) (C := RX6) (T := TX6) (N := 29) hx hb hu k_iX6 hown hK hP 0 rfl rfl 7 (by decide) (hu _ u_725) (fun _ h9 => h9) rfl dX6_firstLink_24 ?_
        refine lv_iload_n hx hb dX6_firstLink_27 rfl (lv_at hl 4 rfl) ?_
        obtain ⟨hin_4, h⟩ := ob_if h
        have hin_4 := inb_in hin_4
        refine va_zald (D := D) hx hb hK hP 2 1 rfl rfl hin_4 dX6_firstLink_28 ?_
        refine lv_if_eq (tgt := 90) hx hb dX6_firstLink_29 (by decide) (fun cc_5 => ?_) (fun cc_5 => ?_)
        · have h := (if_pos cc_5).symm.trans h
          refine lv_iinc (v := (x3 + (1 : Int32))) (lv' := [(3, .int (x3 + (1 : Int32))), (4, .int r_2), (0, .ref qm), (1, .int x1), (2, .int x2)]) hx hb dX6_firstLink_90 hl (k := 4) rfl rfl (by decide) rfl (fun ls hl => ?_)
          refine lv_goto (tgt := 5) hx hb dX6_firstLink_93 (by decide) ?_
          exact ih5 x1 x2 (x3 + (1 : Int32)) m_w m_may m_least _ _ _ hP hD hS (lv_sub hl [2, 3, 4, 0] rfl) h
        · have h := (if_neg cc_5).symm.trans h
          refine lv_iload hx hb dX6_firstLink_32 (lv_at hl 0 rfl) ?_
          refine lv_bipush (v := (-9 : Int32)) hx hb dX6_firstLink_34 (by decide) ?_
          refine lv_icmp_eq (tgt := 90) hx hb dX6_firstLink_36 (by decide) (fun cc_6 => ?_) (fun cc_6 => ?_)
          · have h := (if_pos cc_6).symm.trans h
            refine lv_iinc (v := (x3 + (1 : Int32))) (lv' := [(3, .int (x3 + (1 : Int32))), (4, .int r_2), (0, .ref qm), (1, .int x1), (2, .int x2)]) hx hb dX6_firstLink_90 hl (k := 4) rfl rfl (by decide) rfl (fun ls hl => ?_)
            refine lv_goto (tgt := 5) hx hb dX6_firstLink_93 (by decide) ?_
            exact ih5 x1 x2 (x3 + (1 : Int32)) m_w m_may m_least _ _ _ hP hD hS (lv_sub hl [2, 3, 4, 0] rfl) h
          · have h := (if_neg cc_6).symm.trans h
            refine lv_aload_n hx hb dX6_firstLink_39 rfl (lv_at hl 1 rfl) ?_
            refine va_get (D := D) (ci := 6) (v := .ref qm_least) (C := RX6) (T := TX6) (N := 29) hx hb hu k_iX6 hown hK hP 0 rfl rfl 8 (by decide) (hu _ u_726) (fun _ h9 => h9) rfl dX6_firstLink_40 ?_
            refine lv_iload hx hb dX6_firstLink_43 (lv_at hl 0 rfl) ?_
            obtain ⟨hin_7, h⟩ := ob_if h
            have hin_7 := inb_in hin_7
            refine va_iald (D := D) hx hb hK hP 3 0 rfl rfl hin_7 dX6_firstLink_45 ?_
            refine lv_bipush (v := (16 : Int32)) hx hb dX6_firstLink_46 (by decide) ?_
            refine lv_aload_n hx hb dX6_firstLink_48 rfl (lv_at hl 1 rfl) ?_
            refine lv_iload_n hx hb dX6_firstLink_49 rfl (lv_at hl 4 rfl) ?_
            refine lv_iconst (v := (2 : Int32)) hx hb dX6_firstLink_50 (by decide) ?_
            obtain ⟨r_8, hc_9, h⟩ := ob_bind h
            refine k_callVIr (qb := 0) [0, 1] (As := [.int x3, .int (2 : Int32)]) (rest := [.int (16 : Int32), .int (m_least (Int32.toNatClampNeg r_2))]) ⟨hx, hb, hml, hown, hts⟩ hT hZ hA hP hD hS (c_X6_of l D cI cZ cN aK aV qm qm_w qm_past qm_images qm_text qm_may qm_least qm_isCarried qm_list qm_nodes qm_kept qm_keptLow qm_keptHigh qm_keptNodes qm_numbers qm_sums qm_commands qm_held m_w m_pastMany m_filled m_length m_listMany m_went m_cost m_cause m_looks m_isSent m_isOld m_keptMany m_commandMany x3 (2 : Int32) r_8 hc_9) ⟨callB_of 2 hts (k_good u_840) rfl rfl rfl (hu _ u_51) (hu _ u_837) (by decide +kernel) ⟨Nat.le_of_ble_eq_true rfl, Nat.le_of_ble_eq_true rfl⟩, hu _ u_839, hu _ u_23⟩ rfl rfl rfl (by decide) rfl hl.1 rfl (Nat.le_of_ble_eq_true rfl) dX6_firstLink_51 (fun H locs hP hD hS => ?_)
            refine lv_imul hx hb dX6_firstLink_54 ?_
            refine lv_iadd hx hb dX6_firstLink_55 ?_
            refine lv_iconst (v := (1 : Int32)) hx hb dX6_firstLink_56 (by decide) ?_
            refine lv_iadd hx hb dX6_firstLink_57 ?_
            refine lv_aload_n hx hb dX6_firstLink_58 rfl (lv_at hl 1 rfl) ?_
            refine va_get (D := D) (ci := 6) (v := .ref qm_least) (C := RX6) (T := TX6) (N := 29) hx hb hu k_iX6 hown hK hP 0 rfl rfl 8 (by decide) (hu _ u_726) (fun _ h9 => h9) rfl dX6_firstLink_59 ?_
            refine lv_iload_n hx hb dX6_firstLink_62 rfl (lv_at hl 2 rfl) ?_
            obtain ⟨hin_10, h⟩ := ob_if h
            have hin_10 := inb_in hin_10
            refine va_iald (D := D) hx hb hK hP 3 0 rfl rfl hin_10 dX6_firstLink_63 ?_
            refine lv_icmp_ne (tgt := 90) hx hb dX6_firstLink_64 (by decide) (fun cc_11 => ?_) (fun cc_11 => ?_)
            · have h := (if_neg cc_11).symm.trans h
              refine lv_iinc (v := (x3 + (1 : Int32))) (lv' := [(3, .int (x3 + (1 : Int32))), (4, .int r_2), (0, .ref qm), (1, .int x1), (2, .int x2)]) hx hb dX6_firstLink_90 hl (k := 4) rfl rfl (by decide) rfl (fun ls hl => ?_)
              refine lv_goto (tgt := 5) hx hb dX6_firstLink_93 (by decide) ?_
              exact ih5 x1 x2 (x3 + (1 : Int32)) m_w m_may m_least _ _ _ hP hD hS (lv_sub hl [2, 3, 4, 0] rfl) h
            · have h := (if_pos cc_11).symm.trans h
              refine lv_iload_n hx hb dX6_firstLink_67 rfl (lv_at hl 3 rfl) ?_
              refine lv_bipush (v := (-9 : Int32)) hx hb dX6_firstLink_68 (by decide) ?_
              refine lv_icmp_eq (tgt := 84) hx hb dX6_firstLink_70 (by decide) (fun cc_12 => ?_) (fun cc_12 => ?_)
              · have h := (if_pos cc_12).symm.trans h
                refine lv_iload_n hx hb dX6_firstLink_84 rfl (lv_at hl 4 rfl) ?_
                refine lv_goto (tgt := 89) hx hb dX6_firstLink_85 (by decide) ?_
                refine lv_istore_n (lv' := [(2, .int x3), (4, .int r_2), (0, .ref qm), (1, .int x1), (3, .int x3)]) hx hb dX6_firstLink_89 rfl hl (by decide) rfl (fun ls hl => ?_)
                refine lv_iinc (v := (x3 + (1 : Int32))) (lv' := [(3, .int (x3 + (1 : Int32))), (2, .int x3), (4, .int r_2), (0, .ref qm), (1, .int x1)]) hx hb dX6_firstLink_90 hl (k := 4) rfl rfl (by decide) rfl (fun ls hl => ?_)
                refine lv_goto (tgt := 5) hx hb dX6_firstLink_93 (by decide) ?_
                exact ih5 x1 x3 (x3 + (1 : Int32)) m_w m_may m_least _ _ _ hP hD hS (lv_sub hl [3, 4, 1, 0] rfl) h
              · have h := (if_neg cc_12).symm.trans h
                refine lv_iload hx hb dX6_firstLink_73 (lv_at hl 0 rfl) ?_
                refine lv_aload_n hx hb dX6_firstLink_75 rfl (lv_at hl 1 rfl) ?_
                refine lv_iload_n hx hb dX6_firstLink_76 rfl (lv_at hl 3 rfl) ?_
                refine lv_iload_n hx hb dX6_firstLink_77 rfl (lv_at hl 2 rfl) ?_
                obtain ⟨r_13, hc_14, h⟩ := ob_bind h
                refine k_callVIr (qb := 0) [0, 1] (As := [.int x2, .int x1]) (rest := [.int r_2]) ⟨hx, hb, hml, hown, hts⟩ hT hZ hA hP hD hS (c_X6_otherEnd l D cI cZ cN aK aV qm qm_w qm_past qm_images qm_text qm_may qm_least qm_isCarried qm_list qm_nodes qm_kept qm_keptLow qm_keptHigh qm_keptNodes qm_numbers qm_sums qm_commands qm_held m_w m_pastMany m_filled m_length m_listMany m_went m_cost m_cause m_looks m_isSent m_isOld m_keptMany m_commandMany x2 x1 r_13 hc_14) ⟨callB_of 2 hts (k_good u_929) rfl rfl rfl (hu _ u_51) (hu _ u_926) (by decide +kernel) ⟨Nat.le_of_ble_eq_true rfl, Nat.le_of_ble_eq_true rfl⟩, hu _ u_928, hu _ u_34⟩ rfl rfl rfl (by decide) rfl hl.1 rfl (Nat.le_of_ble_eq_true rfl) dX6_firstLink_78 (fun H locs hP hD hS => ?_)
                refine lv_icmp_ge (tgt := 88) hx hb dX6_firstLink_81 (by decide) (fun cc_15 => ?_) (fun cc_15 => ?_)
                · have h := (if_pos cc_15).symm.trans h
                  refine lv_iload_n hx hb dX6_firstLink_88 rfl (lv_at hl 3 rfl) ?_
                  refine lv_istore_n (lv' := [(2, .int x2), (4, .int r_2), (0, .ref qm), (1, .int x1), (3, .int x3)]) hx hb dX6_firstLink_89 rfl hl (by decide) rfl (fun ls hl => ?_)
                  refine lv_iinc (v := (x3 + (1 : Int32))) (lv' := [(3, .int (x3 + (1 : Int32))), (2, .int x2), (4, .int r_2), (0, .ref qm), (1, .int x1)]) hx hb dX6_firstLink_90 hl (k := 4) rfl rfl (by decide) rfl (fun ls hl => ?_)
                  refine lv_goto (tgt := 5) hx hb dX6_firstLink_93 (by decide) ?_
                  exact ih5 x1 x2 (x3 + (1 : Int32)) m_w m_may m_least _ _ _ hP hD hS (lv_sub hl [3, 4, 1, 0] rfl) h
                · have h := (if_neg cc_15).symm.trans h
                  refine lv_iload_n hx hb dX6_firstLink_84 rfl (lv_at hl 4 rfl) ?_
                  refine lv_goto (tgt := 89) hx hb dX6_firstLink_85 (by decide) ?_
                  refine lv_istore_n (lv' := [(2, .int x3), (4, .int r_2), (0, .ref qm), (1, .int x1), (3, .int x3)]) hx hb dX6_firstLink_89 rfl hl (by decide) rfl (fun ls hl => ?_)
                  refine lv_iinc (v := (x3 + (1 : Int32))) (lv' := [(3, .int (x3 + (1 : Int32))), (2, .int x3), (4, .int r_2), (0, .ref qm), (1, .int x1)]) hx hb dX6_firstLink_90 hl (k := 4) rfl rfl (by decide) rfl (fun ls hl => ?_)
                  refine lv_goto (tgt := 5) hx hb dX6_firstLink_93 (by decide) ?_
                  exact ih5 x1 x3 (x3 + (1 : Int32)) m_w m_may m_least _ _ _ hP hD hS (lv_sub hl [3, 4, 1, 0] rfl) h
  refine lv_bipush (v := (-9 : Int32)) hx hb dX6_firstLink_0 (by decide) ?_
  refine lv_istore_n (lv' := [(2, .int (-9 : Int32)), (0, .ref qm), (1, .int p1)]) hx hb dX6_firstLink_2 rfl hl (by decide) rfl (fun ls hl => ?_)
  refine lv_iconst (v := (0 : Int32)) hx hb dX6_firstLink_3 (by decide) ?_
  refine lv_istore_n (lv' := [(3, .int (0 : Int32)), (2, .int (-9 : Int32)), (0, .ref qm), (1, .int p1)]) hx hb dX6_firstLink_4 rfl hl (by decide) rfl (fun ls hl => ?_)
  exact w5 1000 p1 (-9 : Int32) (0 : Int32) m_w m_may m_least _ _ _ hP hD hS (lv_sub hl [2, 3, 1, 0] rfl) h
def f_X6_layTrue_b2  : Nat → Int32 → Int32 → Int32 → (Nat → Int32) → (Nat → Int32) → (Nat → Int32) → Option ((Nat → Int32) × (Nat → Int32))
  | 0, _, _, _, _, _, _ => none
  | n + 1, x1, x2, x3, m_w, m_may, m_least =>
    if (m_w (Int32.toNatClampNeg (1 : Int32))) ≤ x3 then
      (f_X6_layLeast x1 m_w m_may m_least).bind fun o_2 =>
      some (m_may, o_2)
    else
      (f_X6_of x3 (3 : Int32) m_w).bind fun r_4 =>
      if r_4 = (1 : Int32) then
        if x3 = x2 then
          if inb x3 18 = true then
          (f_X6_layTrue_b2 n) x1 x2 (x3 + (1 : Int32)) m_w (upd m_may (Int32.toNatClampNeg x3) (0 : Int32)) m_least
          else none
        else
          if inb x3 18 = true then
          (f_X6_layTrue_b2 n) x1 x2 (x3 + (1 : Int32)) m_w (upd m_may (Int32.toNatClampNeg x3) (1 : Int32)) m_least
          else none
      else
        if inb x3 18 = true then
        (f_X6_layTrue_b2 n) x1 x2 (x3 + (1 : Int32)) m_w (upd m_may (Int32.toNatClampNeg x3) (0 : Int32)) m_least
        else none
def f_X6_layTrue (p1 : Int32) (p2 : Int32) (m_w : (Nat → Int32)) (m_may : (Nat → Int32)) (m_least : (Nat → Int32)) : Option ((Nat → Int32) × (Nat → Int32)) :=
  f_X6_layTrue_b2 1000 p1 p2 (0 : Int32) m_w m_may m_least
set_option maxHeartbeats 4000000 in
set_option maxRecDepth 100000 in
theorem c_X6_layTrue (l : Launch) (D : va_G) (cI cZ cN : ClassId) (aK aV : Nat → Nat)  (qm : Nat) (qm_w : Nat) (qm_past : Nat) (qm_images : Nat) (qm_text : Nat) (qm_may : Nat) (qm_least : Nat) (qm_isCarried : Nat) (qm_list : Nat) (qm_nodes : Nat) (qm_kept : Nat) (qm_keptLow : Nat) (qm_keptHigh : Nat) (qm_keptNodes : Nat) (qm_numbers : Nat) (qm_sums : Nat) (qm_commands : Nat) (qm_held : Nat) (m_w : (Nat → Int32)) (m_pastMany : Int32) (m_filled : Int32) (m_length : Int32) (m_may : (Nat → Int32)) (m_least : (Nat → Int32)) (m_listMany : Int32) (m_went : Int32) (m_cost : Int32) (m_cause : Int32) (m_looks : Int32) (m_isSent : Int32) (m_isOld : Int32) (m_keptMany : Int32) (m_commandMany : Int32) (p1 p2 : Int32) (z_m_may : (Nat → Int32)) (z_m_least : (Nat → Int32)) (h : f_X6_layTrue p1 p2 m_w m_may m_least = some (z_m_may, z_m_least)) : CtV l D cI cZ cN aK aV yX6_layTrue (k_W yX6_layTrue cX6_layTrue 4 none) { frames := 2, cells := 0, slots := 0, locals := 48 } [.ref qm, .int p1, .int p2] [(qm, .inr (6, [.ref qm_w, .ref qm_past, .int m_pastMany, .ref qm_images, .int m_filled, .ref qm_text, .int m_length, .ref qm_may, .ref qm_least, .ref qm_isCarried, .ref qm_list, .ref qm_nodes, .int m_listMany, .int m_went, .int m_cost, .int m_cause, .int m_looks, .int m_isSent, .int m_isOld, .ref qm_kept, .ref qm_keptLow, .ref qm_keptHigh, .int m_keptMany, .ref qm_keptNodes, .ref qm_numbers, .ref qm_sums, .ref qm_commands, .int m_commandMany, .ref qm_held])), (qm_w, .inl (cI, 93, .inl m_w)), (qm_may, .inl (cZ, 18, .inl m_may)), (qm_least, .inl (cI, 9, .inl m_least))] [(qm, .inr (6, [.ref qm_w, .ref qm_past, .int m_pastMany, .ref qm_images, .int m_filled, .ref qm_text, .int m_length, .ref qm_may, .ref qm_least, .ref qm_isCarried, .ref qm_list, .ref qm_nodes, .int m_listMany, .int m_went, .int m_cost, .int m_cause, .int m_looks, .int m_isSent, .int m_isOld, .ref qm_kept, .ref qm_keptLow, .ref qm_keptHigh, .int m_keptMany, .ref qm_keptNodes, .ref qm_numbers, .ref qm_sums, .ref qm_commands, .int m_commandMany, .ref qm_held])), (qm_w, .inl (cI, 93, .inl m_w)), (qm_may, .inl (cZ, 18, .inl z_m_may)), (qm_least, .inl (cI, 9, .inl z_m_least))] := by
  refine k_startV (by decide) (Nat.le_of_ble_eq_true rfl) ?_
  intro p e s m below meth c A ls hx hb hr hml hown hts hlocks hT hZ hA hP hD hS hl
  have hK := hT.1
  have hu : ∀ w ∈ k_U, w.before ([.ref qm, .int p1, .int p2] : List Value).toArray s = true := fun w h => hts w (List.mem_cons_of_mem _ h)
  have hown : s.vm.findClass RX6 = some m.cls := hown
  have hl : lv_has ls 4 [(0, .ref qm), (1, .int p1), (2, .int p2)] := hl
  unfold f_X6_layTrue at h
  have w2 : ∀ (n2 : Nat) (x1 : Int32) (x2 : Int32) (x3 : Int32) (m_w : (Nat → Int32)) (m_may : (Nat → Int32)) (m_least : (Nat → Int32)) (H : Heap) (locs : List Loc) (ls : Array Slot), va_P D vwCl [(qm, .inr (6, [.ref qm_w, .ref qm_past, .int m_pastMany, .ref qm_images, .int m_filled, .ref qm_text, .int m_length, .ref qm_may, .ref qm_least, .ref qm_isCarried, .ref qm_list, .ref qm_nodes, .int m_listMany, .int m_went, .int m_cost, .int m_cause, .int m_looks, .int m_isSent, .int m_isOld, .ref qm_kept, .ref qm_keptLow, .ref qm_keptHigh, .int m_keptMany, .ref qm_keptNodes, .ref qm_numbers, .ref qm_sums, .ref qm_commands, .int m_commandMany, .ref qm_held])), (qm_w, .inl (cI, 93, .inl m_w)), (qm_may, .inl (cZ, 18, .inl m_may)), (qm_least, .inl (cI, 9, .inl m_least))] H → va_D A [(qm, .inr (6, [.ref qm_w, .ref qm_past, .int m_pastMany, .ref qm_images, .int m_filled, .ref qm_text, .int m_length, .ref qm_may, .ref qm_least, .ref qm_isCarried, .ref qm_list, .ref qm_nodes, .int m_listMany, .int m_went, .int m_cost, .int m_cause, .int m_looks, .int m_isSent, .int m_isOld, .ref qm_kept, .ref qm_keptLow, .ref qm_keptHigh, .int m_keptMany, .ref qm_keptNodes, .ref qm_numbers, .ref qm_sums, .ref qm_commands, .int m_commandMany, .ref qm_held])), (qm_w, .inl (cI, 93, .inl m_w)), (qm_may, .inl (cZ, 18, .inl m_may)), (qm_least, .inl (cI, 9, .inl m_least))] → va_S A s.heap H locs → lv_has ls 4 [(0, .ref qm), (1, .int x1), (2, .int x2), (3, .int x3)] → f_X6_layTrue_b2 n2 x1 x2 x3 m_w m_may m_least = some (z_m_may, z_m_least) → W p l e { frames := 2, cells := 0, slots := 0, locals := 48 } s m ([.ref qm, .int p1, .int p2] : List Value).toArray below meth c H locs 0 0 (MQ below (k_QV D [(qm, .inr (6, [.ref qm_w, .ref qm_past, .int m_pastMany, .ref qm_images, .int m_filled, .ref qm_text, .int m_length, .ref qm_may, .ref qm_least, .ref qm_isCarried, .ref qm_list, .ref qm_nodes, .int m_listMany, .int m_went, .int m_cost, .int m_cause, .int m_looks, .int m_isSent, .int m_isOld, .ref qm_kept, .ref qm_keptLow, .ref qm_keptHigh, .int m_keptMany, .ref qm_keptNodes, .ref qm_numbers, .ref qm_sums, .ref qm_commands, .int m_commandMany, .ref qm_held])), (qm_w, .inl (cI, 93, .inl m_w)), (qm_may, .inl (cZ, 18, .inl z_m_may)), (qm_least, .inl (cI, 9, .inl z_m_least))] A) ([.ref qm, .int p1, .int p2] : List Value).toArray s 0 0 A) (F0 m 2 ls []) := by
    intro n2
    induction n2 with
    | zero =>
      intro x1 x2 x3 m_w m_may m_least H locs ls hP hD hS hl h
      rw [f_X6_layTrue_b2] at h
      cases h
    | succ n2 ih2 =>
      intro x1 x2 x3 m_w m_may m_least H locs ls hP hD hS hl h
      rw [f_X6_layTrue_b2] at h
      refine lv_iload_n hx hb dX6_layTrue_2 rfl (lv_at hl 3 rfl) ?_
      refine lv_aload_n hx hb dX6_layTrue_3 rfl (lv_at hl 0 rfl) ?_
      refine va_get (D := D) (ci := 6) (v := .ref qm_w) (C := RX6) (T := TX6) (N := 29) hx hb hu k_iX6 hown hK hP 0 rfl rfl 0 (by decide) (hu _ u_718) (fun _ h9 => h9) rfl dX6_layTrue_4 ?_
      refine lv_iconst (v := (1 : Int32)) hx hb dX6_layTrue_7 (by decide) ?_
      refine va_iald (D := D) hx hb hK hP 1 0 rfl rfl (inb_in (by decide)) dX6_layTrue_8 ?_
      refine lv_icmp_ge (tgt := 44) hx hb dX6_layTrue_9 (by decide) (fun cc_1 => ?_) (fun cc_1 => ?_)
      · have h := (if_pos cc_1).symm.trans h
        refine lv_aload_n hx hb dX6_layTrue_44 rfl (lv_at hl 0 rfl) ?_
        refine lv_iload_n hx hb dX6_layTrue_45 rfl (lv_at hl 1 rfl) ?_
        obtain ⟨o_2, hc_3, h⟩ := ob_bind h
        refine k_callVV (qb := 0) [0, 1, 2, 3] [3] [3] [(qm_least, .inl (cI, 9, .inl o_2))] (As := [.int x1]) (rest := []) ⟨hx, hb, hml, hown, hts⟩ hT hZ hA hP hD hS (c_X6_layLeast l D cI cZ cN aK aV qm qm_w qm_past qm_images qm_text qm_may qm_least qm_isCarried qm_list qm_nodes qm_kept qm_keptLow qm_keptHigh qm_keptNodes qm_numbers qm_sums qm_commands qm_held m_w m_pastMany m_filled m_length m_may m_least m_listMany m_went m_cost m_cause m_looks m_isSent m_isOld m_keptMany m_commandMany x1 o_2 hc_3) ⟨callB_of 1 hts (k_good u_904) rfl rfl rfl (hu _ u_51) (hu _ u_901) (by decide +kernel) ⟨Nat.le_of_ble_eq_true rfl, Nat.le_of_ble_eq_true rfl⟩, hu _ u_903, hu _ u_31⟩ rfl rfl rfl (by decide) (by decide) (by decide) rfl rfl rfl rfl hl.1 rfl (Nat.le_of_ble_eq_true rfl) dX6_layTrue_46 (fun H locs hP hD hS => ?_)
        have hP : va_P D vwCl [(qm, .inr (6, [.ref qm_w, .ref qm_past, .int m_pastMany, .ref qm_images, .int m_filled, .ref qm_text, .int m_length, .ref qm_may, .ref qm_least, .ref qm_isCarried, .ref qm_list, .ref qm_nodes, .int m_listMany, .int m_went, .int m_cost, .int m_cause, .int m_looks, .int m_isSent, .int m_isOld, .ref qm_kept, .ref qm_keptLow, .ref qm_keptHigh, .int m_keptMany, .ref qm_keptNodes, .ref qm_numbers, .ref qm_sums, .ref qm_commands, .int m_commandMany, .ref qm_held])), (qm_w, .inl (cI, 93, .inl m_w)), (qm_may, .inl (cZ, 18, .inl m_may)), (qm_least, .inl (cI, 9, .inl o_2))] H := hP
        have hD : va_D A [(qm, .inr (6, [.ref qm_w, .ref qm_past, .int m_pastMany, .ref qm_images, .int m_filled, .ref qm_text, .int m_length, .ref qm_may, .ref qm_least, .ref qm_isCarried, .ref qm_list, .ref qm_nodes, .int m_listMany, .int m_went, .int m_cost, .int m_cause, .int m_looks, .int m_isSent, .int m_isOld, .ref qm_kept, .ref qm_keptLow, .ref qm_keptHigh, .int m_keptMany, .ref qm_keptNodes, .ref qm_numbers, .ref qm_sums, .ref qm_commands, .int m_commandMany, .ref qm_held])), (qm_w, .inl (cI, 93, .inl m_w)), (qm_may, .inl (cZ, 18, .inl m_may)), (qm_least, .inl (cI, 9, .inl o_2))] := hD
        have hq := Option.some.inj h
        clear h
        obtain ⟨e0, hq0⟩ := Prod.mk.inj hq
        clear hq
        subst e0
        subst hq0
        exact k_retV hx hb hr hlocks hP hD hS dX6_layTrue_49
      · have h := (if_neg cc_1).symm.trans h
        refine lv_aload_n hx hb dX6_layTrue_12 rfl (lv_at hl 0 rfl) ?_
        refine va_get (D := D) (ci := 6) (v := .ref qm_may) (C := RX6) (T := TX6) (N := 29) hx hb hu k_iX6 hown hK hP 0 rfl rfl 7 (by decide) (hu _ u_725) (fun _ h9 => h9) rfl dX6_layTrue_13 ?_
        refine lv_iload_n hx hb dX6_layTrue_16 rfl (lv_at hl 3 rfl) ?_
        refine lv_aload_n hx hb dX6_layTrue_17 rfl (lv_at hl 0 rfl) ?_
        refine lv_iload_n hx hb dX6_layTrue_18 rfl (lv_at hl 3 rfl) ?_
        refine lv_iconst (v := (3 : Int32)) hx hb dX6_layTrue_19 (by decide) ?_
        obtain ⟨r_4, hc_5, h⟩ := ob_bind h
        refine k_callVIr (qb := 0) [0, 1] (As := [.int x3, .int (3 : Int32)]) (rest := [.int x3, .ref qm_may]) ⟨hx, hb, hml, hown, hts⟩ hT hZ hA hP hD hS (c_X6_of l D cI cZ cN aK aV qm qm_w qm_past qm_images qm_text qm_may qm_least qm_isCarried qm_list qm_nodes qm_kept qm_keptLow qm_keptHigh qm_keptNodes qm_numbers qm_sums qm_commands qm_held m_w m_pastMany m_filled m_length m_listMany m_went m_cost m_cause m_looks m_isSent m_isOld m_keptMany m_commandMany x3 (3 : Int32) r_4 hc_5) ⟨callB_of 2 hts (k_good u_840) rfl rfl rfl (hu _ u_51) (hu _ u_837) (by decide +kernel) ⟨Nat.le_of_ble_eq_true rfl, Nat.le_of_ble_eq_true rfl⟩, hu _ u_839, hu _ u_23⟩ rfl rfl rfl (by decide) rfl hl.1 rfl (Nat.le_of_ble_eq_true rfl) dX6_layTrue_20 (fun H locs hP hD hS => ?_)
        refine lv_iconst (v := (1 : Int32)) hx hb dX6_layTrue_23 (by decide) ?_
        refine lv_icmp_ne (tgt := 36) hx hb dX6_layTrue_24 (by decide) (fun cc_6 => ?_) (fun cc_6 => ?_)
        · have h := (if_neg cc_6).symm.trans h
          refine lv_iconst (v := (0 : Int32)) hx hb dX6_layTrue_36 (by decide) ?_
          obtain ⟨hin_7, h⟩ := ob_if h
          have hin_7 := inb_in hin_7
          refine va_zast (D := D) hx hb hK hP hD hS 2 1 rfl rfl hin_7 dX6_layTrue_37 (fun H locs hP hD hS => ?_)
          have hP : va_P D vwCl [(qm, .inr (6, [.ref qm_w, .ref qm_past, .int m_pastMany, .ref qm_images, .int m_filled, .ref qm_text, .int m_length, .ref qm_may, .ref qm_least, .ref qm_isCarried, .ref qm_list, .ref qm_nodes, .int m_listMany, .int m_went, .int m_cost, .int m_cause, .int m_looks, .int m_isSent, .int m_isOld, .ref qm_kept, .ref qm_keptLow, .ref qm_keptHigh, .int m_keptMany, .ref qm_keptNodes, .ref qm_numbers, .ref qm_sums, .ref qm_commands, .int m_commandMany, .ref qm_held])), (qm_w, .inl (cI, 93, .inl m_w)), (qm_may, .inl (cZ, 18, .inl (upd m_may (Int32.toNatClampNeg x3) (0 : Int32)))), (qm_least, .inl (cI, 9, .inl m_least))] H := hP
          have hD : va_D A [(qm, .inr (6, [.ref qm_w, .ref qm_past, .int m_pastMany, .ref qm_images, .int m_filled, .ref qm_text, .int m_length, .ref qm_may, .ref qm_least, .ref qm_isCarried, .ref qm_list, .ref qm_nodes, .int m_listMany, .int m_went, .int m_cost, .int m_cause, .int m_looks, .int m_isSent, .int m_isOld, .ref qm_kept, .ref qm_keptLow, .ref qm_keptHigh, .int m_keptMany, .ref qm_keptNodes, .ref qm_numbers, .ref qm_sums, .ref qm_commands, .int m_commandMany, .ref qm_held])), (qm_w, .inl (cI, 93, .inl m_w)), (qm_may, .inl (cZ, 18, .inl (upd m_may (Int32.toNatClampNeg x3) (0 : Int32)))), (qm_least, .inl (cI, 9, .inl m_least))] := hD
          refine lv_iinc (v := (x3 + (1 : Int32))) (lv' := [(3, .int (x3 + (1 : Int32))), (0, .ref qm), (1, .int x1), (2, .int x2)]) hx hb dX6_layTrue_38 hl (k := 3) rfl rfl (by decide) rfl (fun ls hl => ?_)
          refine lv_goto (tgt := 2) hx hb dX6_layTrue_41 (by decide) ?_
          exact ih2 x1 x2 (x3 + (1 : Int32)) m_w (upd m_may (Int32.toNatClampNeg x3) (0 : Int32)) m_least _ _ _ hP hD hS (lv_sub hl [1, 2, 3, 0] rfl) h
        · have h := (if_pos cc_6).symm.trans h
          refine lv_iload_n hx hb dX6_layTrue_27 rfl (lv_at hl 3 rfl) ?_
          refine lv_iload_n hx hb dX6_layTrue_28 rfl (lv_at hl 2 rfl) ?_
          refine lv_icmp_eq (tgt := 36) hx hb dX6_layTrue_29 (by decide) (fun cc_8 => ?_) (fun cc_8 => ?_)
          · have h := (if_pos cc_8).symm.trans h
            refine lv_iconst (v := (0 : Int32)) hx hb dX6_layTrue_36 (by decide) ?_
            obtain ⟨hin_9, h⟩ := ob_if h
            have hin_9 := inb_in hin_9
            refine va_zast (D := D) hx hb hK hP hD hS 2 1 rfl rfl hin_9 dX6_layTrue_37 (fun H locs hP hD hS => ?_)
            have hP : va_P D vwCl [(qm, .inr (6, [.ref qm_w, .ref qm_past, .int m_pastMany, .ref qm_images, .int m_filled, .ref qm_text, .int m_length, .ref qm_may, .ref qm_least, .ref qm_isCarried, .ref qm_list, .ref qm_nodes, .int m_listMany, .int m_went, .int m_cost, .int m_cause, .int m_looks, .int m_isSent, .int m_isOld, .ref qm_kept, .ref qm_keptLow, .ref qm_keptHigh, .int m_keptMany, .ref qm_keptNodes, .ref qm_numbers, .ref qm_sums, .ref qm_commands, .int m_commandMany, .ref qm_held])), (qm_w, .inl (cI, 93, .inl m_w)), (qm_may, .inl (cZ, 18, .inl (upd m_may (Int32.toNatClampNeg x3) (0 : Int32)))), (qm_least, .inl (cI, 9, .inl m_least))] H := hP
            have hD : va_D A [(qm, .inr (6, [.ref qm_w, .ref qm_past, .int m_pastMany, .ref qm_images, .int m_filled, .ref qm_text, .int m_length, .ref qm_may, .ref qm_least, .ref qm_isCarried, .ref qm_list, .ref qm_nodes, .int m_listMany, .int m_went, .int m_cost, .int m_cause, .int m_looks, .int m_isSent, .int m_isOld, .ref qm_kept, .ref qm_keptLow, .ref qm_keptHigh, .int m_keptMany, .ref qm_keptNodes, .ref qm_numbers, .ref qm_sums, .ref qm_commands, .int m_commandMany, .ref qm_held])), (qm_w, .inl (cI, 93, .inl m_w)), (qm_may, .inl (cZ, 18, .inl (upd m_may (Int32.toNatClampNeg x3) (0 : Int32)))), (qm_least, .inl (cI, 9, .inl m_least))] := hD
            refine lv_iinc (v := (x3 + (1 : Int32))) (lv' := [(3, .int (x3 + (1 : Int32))), (0, .ref qm), (1, .int x1), (2, .int x2)]) hx hb dX6_layTrue_38 hl (k := 3) rfl rfl (by decide) rfl (fun ls hl => ?_)
            refine lv_goto (tgt := 2) hx hb dX6_layTrue_41 (by decide) ?_
            exact ih2 x1 x2 (x3 + (1 : Int32)) m_w (upd m_may (Int32.toNatClampNeg x3) (0 : Int32)) m_least _ _ _ hP hD hS (lv_sub hl [1, 2, 3, 0] rfl) h
          · have h := (if_neg cc_8).symm.trans h
            refine lv_iconst (v := (1 : Int32)) hx hb dX6_layTrue_32 (by decide) ?_
            refine lv_goto (tgt := 37) hx hb dX6_layTrue_33 (by decide) ?_
            obtain ⟨hin_10, h⟩ := ob_if h
            have hin_10 := inb_in hin_10
            refine va_zast (D := D) hx hb hK hP hD hS 2 1 rfl rfl hin_10 dX6_layTrue_37 (fun H locs hP hD hS => ?_)
            have hP : va_P D vwCl [(qm, .inr (6, [.ref qm_w, .ref qm_past, .int m_pastMany, .ref qm_images, .int m_filled, .ref qm_text, .int m_length, .ref qm_may, .ref qm_least, .ref qm_isCarried, .ref qm_list, .ref qm_nodes, .int m_listMany, .int m_went, .int m_cost, .int m_cause, .int m_looks, .int m_isSent, .int m_isOld, .ref qm_kept, .ref qm_keptLow, .ref qm_keptHigh, .int m_keptMany, .ref qm_keptNodes, .ref qm_numbers, .ref qm_sums, .ref qm_commands, .int m_commandMany, .ref qm_held])), (qm_w, .inl (cI, 93, .inl m_w)), (qm_may, .inl (cZ, 18, .inl (upd m_may (Int32.toNatClampNeg x3) (1 : Int32)))), (qm_least, .inl (cI, 9, .inl m_least))] H := hP
            have hD : va_D A [(qm, .inr (6, [.ref qm_w, .ref qm_past, .int m_pastMany, .ref qm_images, .int m_filled, .ref qm_text, .int m_length, .ref qm_may, .ref qm_least, .ref qm_isCarried, .ref qm_list, .ref qm_nodes, .int m_listMany, .int m_went, .int m_cost, .int m_cause, .int m_looks, .int m_isSent, .int m_isOld, .ref qm_kept, .ref qm_keptLow, .ref qm_keptHigh, .int m_keptMany, .ref qm_keptNodes, .ref qm_numbers, .ref qm_sums, .ref qm_commands, .int m_commandMany, .ref qm_held])), (qm_w, .inl (cI, 93, .inl m_w)), (qm_may, .inl (cZ, 18, .inl (upd m_may (Int32.toNatClampNeg x3) (1 : Int32)))), (qm_least, .inl (cI, 9, .inl m_least))] := hD
            refine lv_iinc (v := (x3 + (1 : Int32))) (lv' := [(3, .int (x3 + (1 : Int32))), (0, .ref qm), (1, .int x1), (2, .int x2)]) hx hb dX6_layTrue_38 hl (k := 3) rfl rfl (by decide) rfl (fun ls hl => ?_)
            refine lv_goto (tgt := 2) hx hb dX6_layTrue_41 (by decide) ?_
            exact ih2 x1 x2 (x3 + (1 : Int32)) m_w (upd m_may (Int32.toNatClampNeg x3) (1 : Int32)) m_least _ _ _ hP hD hS (lv_sub hl [1, 2, 3, 0] rfl) h
  refine lv_iconst (v := (0 : Int32)) hx hb dX6_layTrue_0 (by decide) ?_
  refine lv_istore_n (lv' := [(3, .int (0 : Int32)), (0, .ref qm), (1, .int p1), (2, .int p2)]) hx hb dX6_layTrue_1 rfl hl (by decide) rfl (fun ls hl => ?_)
  exact w2 1000 p1 p2 (0 : Int32) m_w m_may m_least _ _ _ hP hD hS (lv_sub hl [1, 2, 3, 0] rfl) h
def f_X6_parts_b26 (k4 : Int32 → Int32 → (Nat → Int32) → (Nat → Int32) → (Nat → Int32) → Option (Int32 × (Nat → Int32) × (Nat → Int32))) : Nat → Int32 → Int32 → Int32 → Int32 → (Nat → Int32) → (Nat → Int32) → (Nat → Int32) → Option (Int32 × (Nat → Int32) × (Nat → Int32))
  | 0, _, _, _, _, _, _, _ => none
  | n + 1, x1, x2, x3, x4, m_w, m_may, m_least =>
    if x2 ≤ x4 then
      if x3 = (0 : Int32) then
        k4 (x1 + (0 : Int32)) (x2 + (1 : Int32)) m_w m_may m_least
      else
        k4 (x1 + (1 : Int32)) (x2 + (1 : Int32)) m_w m_may m_least
    else
      if inb x4 9 = true then
      if (m_least (Int32.toNatClampNeg x4)) = (1000000 : Int32) then
        (f_X6_parts_b26 k4 n) x1 x2 (x3 &&& (1 : Int32)) (x4 + (1 : Int32)) m_w m_may m_least
      else
        (f_X6_parts_b26 k4 n) x1 x2 (x3 &&& (0 : Int32)) (x4 + (1 : Int32)) m_w m_may m_least
      else none
def f_X6_parts_b4  : Nat → Int32 → Int32 → (Nat → Int32) → (Nat → Int32) → (Nat → Int32) → Option (Int32 × (Nat → Int32) × (Nat → Int32))
  | 0, _, _, _, _, _ => none
  | n + 1, x1, x2, m_w, m_may, m_least =>
    if (m_w (Int32.toNatClampNeg (0 : Int32))) ≤ x2 then
      some (x1, m_may, m_least)
    else
      (f_X6_layTrue x2 (-9 : Int32) m_w m_may m_least).bind fun ⟨o_2, o_3⟩ =>
      f_X6_parts_b26 (f_X6_parts_b4 n) 1000 x1 x2 (1 : Int32) (0 : Int32) m_w o_2 o_3
def f_X6_parts (m_w : (Nat → Int32)) (m_may : (Nat → Int32)) (m_least : (Nat → Int32)) : Option (Int32 × (Nat → Int32) × (Nat → Int32)) :=
  f_X6_parts_b4 1000 (0 : Int32) (0 : Int32) m_w m_may m_least
set_option maxHeartbeats 4000000 in
set_option maxRecDepth 100000 in
theorem c_X6_parts (l : Launch) (D : va_G) (cI cZ cN : ClassId) (aK aV : Nat → Nat)  (qm : Nat) (qm_w : Nat) (qm_past : Nat) (qm_images : Nat) (qm_text : Nat) (qm_may : Nat) (qm_least : Nat) (qm_isCarried : Nat) (qm_list : Nat) (qm_nodes : Nat) (qm_kept : Nat) (qm_keptLow : Nat) (qm_keptHigh : Nat) (qm_keptNodes : Nat) (qm_numbers : Nat) (qm_sums : Nat) (qm_commands : Nat) (qm_held : Nat) (m_w : (Nat → Int32)) (m_pastMany : Int32) (m_filled : Int32) (m_length : Int32) (m_may : (Nat → Int32)) (m_least : (Nat → Int32)) (m_listMany : Int32) (m_went : Int32) (m_cost : Int32) (m_cause : Int32) (m_looks : Int32) (m_isSent : Int32) (m_isOld : Int32) (m_keptMany : Int32) (m_commandMany : Int32) (r : Int32) (z_m_may : (Nat → Int32)) (z_m_least : (Nat → Int32)) (h : f_X6_parts m_w m_may m_least = some (r, z_m_may, z_m_least)) : CtI l D cI cZ cN aK aV yX6_parts (k_W yX6_parts cX6_parts 5 (some .int)) { frames := 3, cells := 0, slots := 0, locals := 71 } [.ref qm] [(qm, .inr (6, [.ref qm_w, .ref qm_past, .int m_pastMany, .ref qm_images, .int m_filled, .ref qm_text, .int m_length, .ref qm_may, .ref qm_least, .ref qm_isCarried, .ref qm_list, .ref qm_nodes, .int m_listMany, .int m_went, .int m_cost, .int m_cause, .int m_looks, .int m_isSent, .int m_isOld, .ref qm_kept, .ref qm_keptLow, .ref qm_keptHigh, .int m_keptMany, .ref qm_keptNodes, .ref qm_numbers, .ref qm_sums, .ref qm_commands, .int m_commandMany, .ref qm_held])), (qm_w, .inl (cI, 93, .inl m_w)), (qm_may, .inl (cZ, 18, .inl m_may)), (qm_least, .inl (cI, 9, .inl m_least))] r [(qm, .inr (6, [.ref qm_w, .ref qm_past, .int m_pastMany, .ref qm_images, .int m_filled, .ref qm_text, .int m_length, .ref qm_may, .ref qm_least, .ref qm_isCarried, .ref qm_list, .ref qm_nodes, .int m_listMany, .int m_went, .int m_cost, .int m_cause, .int m_looks, .int m_isSent, .int m_isOld, .ref qm_kept, .ref qm_keptLow, .ref qm_keptHigh, .int m_keptMany, .ref qm_keptNodes, .ref qm_numbers, .ref qm_sums, .ref qm_commands, .int m_commandMany, .ref qm_held])), (qm_w, .inl (cI, 93, .inl m_w)), (qm_may, .inl (cZ, 18, .inl z_m_may)), (qm_least, .inl (cI, 9, .inl z_m_least))] := by
  refine k_startI (by decide) (Nat.le_of_ble_eq_true rfl) ?_
  intro p e s m below meth c A ls hx hb hr hml hown hts hlocks hT hZ hA hP hD hS hl
  have hK := hT.1
  have hu : ∀ w ∈ k_U, w.before ([.ref qm] : List Value).toArray s = true := fun w h => hts w (List.mem_cons_of_mem _ h)
  have hown : s.vm.findClass RX6 = some m.cls := hown
  have hl : lv_has ls 5 [(0, .ref qm)] := hl
  unfold f_X6_parts at h
  have w4 : ∀ (n4 : Nat) (x1 : Int32) (x2 : Int32) (m_w : (Nat → Int32)) (m_may : (Nat → Int32)) (m_least : (Nat → Int32)) (H : Heap) (locs : List Loc) (ls : Array Slot), va_P D vwCl [(qm, .inr (6, [.ref qm_w, .ref qm_past, .int m_pastMany, .ref qm_images, .int m_filled, .ref qm_text, .int m_length, .ref qm_may, .ref qm_least, .ref qm_isCarried, .ref qm_list, .ref qm_nodes, .int m_listMany, .int m_went, .int m_cost, .int m_cause, .int m_looks, .int m_isSent, .int m_isOld, .ref qm_kept, .ref qm_keptLow, .ref qm_keptHigh, .int m_keptMany, .ref qm_keptNodes, .ref qm_numbers, .ref qm_sums, .ref qm_commands, .int m_commandMany, .ref qm_held])), (qm_w, .inl (cI, 93, .inl m_w)), (qm_may, .inl (cZ, 18, .inl m_may)), (qm_least, .inl (cI, 9, .inl m_least))] H → va_D A [(qm, .inr (6, [.ref qm_w, .ref qm_past, .int m_pastMany, .ref qm_images, .int m_filled, .ref qm_text, .int m_length, .ref qm_may, .ref qm_least, .ref qm_isCarried, .ref qm_list, .ref qm_nodes, .int m_listMany, .int m_went, .int m_cost, .int m_cause, .int m_looks, .int m_isSent, .int m_isOld, .ref qm_kept, .ref qm_keptLow, .ref qm_keptHigh, .int m_keptMany, .ref qm_keptNodes, .ref qm_numbers, .ref qm_sums, .ref qm_commands, .int m_commandMany, .ref qm_held])), (qm_w, .inl (cI, 93, .inl m_w)), (qm_may, .inl (cZ, 18, .inl m_may)), (qm_least, .inl (cI, 9, .inl m_least))] → va_S A s.heap H locs → lv_has ls 5 [(0, .ref qm), (1, .int x1), (2, .int x2)] → f_X6_parts_b4 n4 x1 x2 m_w m_may m_least = some (r, z_m_may, z_m_least) → W p l e { frames := 3, cells := 0, slots := 0, locals := 71 } s m ([.ref qm] : List Value).toArray below meth c H locs 0 0 (MQ below (k_QI D r [(qm, .inr (6, [.ref qm_w, .ref qm_past, .int m_pastMany, .ref qm_images, .int m_filled, .ref qm_text, .int m_length, .ref qm_may, .ref qm_least, .ref qm_isCarried, .ref qm_list, .ref qm_nodes, .int m_listMany, .int m_went, .int m_cost, .int m_cause, .int m_looks, .int m_isSent, .int m_isOld, .ref qm_kept, .ref qm_keptLow, .ref qm_keptHigh, .int m_keptMany, .ref qm_keptNodes, .ref qm_numbers, .ref qm_sums, .ref qm_commands, .int m_commandMany, .ref qm_held])), (qm_w, .inl (cI, 93, .inl m_w)), (qm_may, .inl (cZ, 18, .inl z_m_may)), (qm_least, .inl (cI, 9, .inl z_m_least))] A) ([.ref qm] : List Value).toArray s 0 0 A) (F0 m 4 ls []) := by
    intro n4
    induction n4 with
    | zero =>
      intro x1 x2 m_w m_may m_least H locs ls hP hD hS hl h
      rw [f_X6_parts_b4] at h
      cases h
    | succ n4 ih4 =>
      intro x1 x2 m_w m_may m_least H locs ls hP hD hS hl h
      rw [f_X6_parts_b4] at h
      have w26 : ∀ (n26 : Nat) (x1 : Int32) (x2 : Int32) (x3 : Int32) (x4 : Int32) (m_w : (Nat → Int32)) (m_may : (Nat → Int32)) (m_least : (Nat → Int32)) (H : Heap) (locs : List Loc) (ls : Array Slot), va_P D vwCl [(qm, .inr (6, [.ref qm_w, .ref qm_past, .int m_pastMany, .ref qm_images, .int m_filled, .ref qm_text, .int m_length, .ref qm_may, .ref qm_least, .ref qm_isCarried, .ref qm_list, .ref qm_nodes, .int m_listMany, .int m_went, .int m_cost, .int m_cause, .int m_looks, .int m_isSent, .int m_isOld, .ref qm_kept, .ref qm_keptLow, .ref qm_keptHigh, .int m_keptMany, .ref qm_keptNodes, .ref qm_numbers, .ref qm_sums, .ref qm_commands, .int m_commandMany, .ref qm_held])), (qm_w, .inl (cI, 93, .inl m_w)), (qm_may, .inl (cZ, 18, .inl m_may)), (qm_least, .inl (cI, 9, .inl m_least))] H → va_D A [(qm, .inr (6, [.ref qm_w, .ref qm_past, .int m_pastMany, .ref qm_images, .int m_filled, .ref qm_text, .int m_length, .ref qm_may, .ref qm_least, .ref qm_isCarried, .ref qm_list, .ref qm_nodes, .int m_listMany, .int m_went, .int m_cost, .int m_cause, .int m_looks, .int m_isSent, .int m_isOld, .ref qm_kept, .ref qm_keptLow, .ref qm_keptHigh, .int m_keptMany, .ref qm_keptNodes, .ref qm_numbers, .ref qm_sums, .ref qm_commands, .int m_commandMany, .ref qm_held])), (qm_w, .inl (cI, 93, .inl m_w)), (qm_may, .inl (cZ, 18, .inl m_may)), (qm_least, .inl (cI, 9, .inl m_least))] → va_S A s.heap H locs → lv_has ls 5 [(0, .ref qm), (1, .int x1), (2, .int x2), (3, .int x3), (4, .int x4)] → f_X6_parts_b26 (f_X6_parts_b4 n4) n26 x1 x2 x3 x4 m_w m_may m_least = some (r, z_m_may, z_m_least) → W p l e { frames := 3, cells := 0, slots := 0, locals := 71 } s m ([.ref qm] : List Value).toArray below meth c H locs 0 0 (MQ below (k_QI D r [(qm, .inr (6, [.ref qm_w, .ref qm_past, .int m_pastMany, .ref qm_images, .int m_filled, .ref qm_text, .int m_length, .ref qm_may, .ref qm_least, .ref qm_isCarried, .ref qm_list, .ref qm_nodes, .int m_listMany, .int m_went, .int m_cost, .int m_cause, .int m_looks, .int m_isSent, .int m_isOld, .ref qm_kept, .ref qm_keptLow, .ref qm_keptHigh, .int m_keptMany, .ref qm_keptNodes, .ref qm_numbers, .ref qm_sums, .ref qm_commands, .int m_commandMany, .ref qm_held])), (qm_w, .inl (cI, 93, .inl m_w)), (qm_may, .inl (cZ, 18, .inl z_m_may)), (qm_least, .inl (cI, 9, .inl z_m_least))] A) ([.ref qm] : List Value).toArray s 0 0 A) (F0 m 26 ls []) := by
        intro n26
        induction n26 with
        | zero =>
          intro x1 x2 x3 x4 m_w m_may m_least H locs ls hP hD hS hl h
          rw [f_X6_parts_b26] at h
          cases h
        | succ n26 ih26 =>
          intro x1 x2 x3 x4 m_w m_may m_least H locs ls hP hD hS hl h
          rw [f_X6_parts_b26] at h
          refine lv_iload hx hb dX6_parts_26 (lv_at hl 4 rfl) ?_
          refine lv_iload_n hx hb dX6_parts_28 rfl (lv_at hl 2 rfl) ?_
          refine lv_icmp_ge (tgt := 58) hx hb dX6_parts_29 (by decide) (fun cc_5 => ?_) (fun cc_5 => ?_)
          · have h := (if_pos cc_5).symm.trans h
            refine lv_iload_n hx hb dX6_parts_58 rfl (lv_at hl 1 rfl) ?_
            refine lv_iload_n hx hb dX6_parts_59 rfl (lv_at hl 3 rfl) ?_
            refine lv_if_eq (tgt := 67) hx hb dX6_parts_60 (by decide) (fun cc_6 => ?_) (fun cc_6 => ?_)
            · have h := (if_pos cc_6).symm.trans h
              refine lv_iconst (v := (0 : Int32)) hx hb dX6_parts_67 (by decide) ?_
              refine lv_iadd hx hb dX6_parts_68 ?_
              refine lv_istore_n (lv' := [(1, .int (x1 + (0 : Int32))), (0, .ref qm), (2, .int x2), (3, .int x3), (4, .int x4)]) hx hb dX6_parts_69 rfl hl (by decide) rfl (fun ls hl => ?_)
              refine lv_iinc (v := (x2 + (1 : Int32))) (lv' := [(2, .int (x2 + (1 : Int32))), (1, .int (x1 + (0 : Int32))), (0, .ref qm), (3, .int x3), (4, .int x4)]) hx hb dX6_parts_70 hl (k := 2) rfl rfl (by decide) rfl (fun ls hl => ?_)
              refine lv_goto (tgt := 4) hx hb dX6_parts_73 (by decide) ?_
              exact ih4 (x1 + (0 : Int32)) (x2 + (1 : Int32)) m_w m_may m_least _ _ _ hP hD hS (lv_sub hl [2, 1, 0] rfl) h
            · have h := (if_neg cc_6).symm.trans h
              refine lv_iconst (v := (1 : Int32)) hx hb dX6_parts_63 (by decide) ?_
              refine lv_goto (tgt := 68) hx hb dX6_parts_64 (by decide) ?_
              refine lv_iadd hx hb dX6_parts_68 ?_
              refine lv_istore_n (lv' := [(1, .int (x1 + (1 : Int32))), (0, .ref qm), (2, .int x2), (3, .int x3), (4, .int x4)]) hx hb dX6_parts_69 rfl hl (by decide) rfl (fun ls hl => ?_)
              refine lv_iinc (v := (x2 + (1 : Int32))) (lv' := [(2, .int (x2 + (1 : Int32))), (1, .int (x1 + (1 : Int32))), (0, .ref qm), (3, .int x3), (4, .int x4)]) hx hb dX6_parts_70 hl (k := 2) rfl rfl (by decide) rfl (fun ls hl => ?_)
              refine lv_goto (tgt := 4) hx hb dX6_parts_73 (by decide) ?_
              exact ih4 (x1 + (1 : Int32)) (x2 + (1 : Int32)) m_w m_may m_least _ _ _ hP hD hS (lv_sub hl [2, 1, 0] rfl) h
          · have h := (if_neg cc_5).symm.trans h
            refine lv_iload_n hx hb dX6_parts_32 rfl (lv_at hl 3 rfl) ?_
            refine lv_aload_n hx hb dX6_parts_33 rfl (lv_at hl 0 rfl) ?_
            refine va_get (D := D) (ci := 6) (v := .ref qm_least) (C := RX6) (T := TX6) (N := 29) hx hb hu k_iX6 hown hK hP 0 rfl rfl 8 (by decide) (hu _ u_726) (fun _ h9 => h9) rfl dX6_parts_34 ?_
            refine lv_iload hx hb dX6_parts_37 (lv_at hl 4 rfl) ?_
            obtain ⟨hin_7, h⟩ := ob_if h
            have hin_7 := inb_in hin_7
            refine va_iald (D := D) hx hb hK hP 3 0 rfl rfl hin_7 dX6_parts_39 ?_
            refine lv_ldc (v := (1000000 : Int32)) hx hb hown (hu _ u_905) dX6_parts_40 ?_
            refine lv_icmp_ne (tgt := 49) hx hb dX6_parts_42 (by decide) (fun cc_8 => ?_) (fun cc_8 => ?_)
            · have h := (if_neg cc_8).symm.trans h
              refine lv_iconst (v := (0 : Int32)) hx hb dX6_parts_49 (by decide) ?_
              refine lv_iand hx hb dX6_parts_50 ?_
              refine lv_istore_n (lv' := [(3, .int (x3 &&& (0 : Int32))), (0, .ref qm), (1, .int x1), (2, .int x2), (4, .int x4)]) hx hb dX6_parts_51 rfl hl (by decide) rfl (fun ls hl => ?_)
              refine lv_iinc (v := (x4 + (1 : Int32))) (lv' := [(4, .int (x4 + (1 : Int32))), (3, .int (x3 &&& (0 : Int32))), (0, .ref qm), (1, .int x1), (2, .int x2)]) hx hb dX6_parts_52 hl (k := 4) rfl rfl (by decide) rfl (fun ls hl => ?_)
              refine lv_goto (tgt := 26) hx hb dX6_parts_55 (by decide) ?_
              exact ih26 x1 x2 (x3 &&& (0 : Int32)) (x4 + (1 : Int32)) m_w m_may m_least _ _ _ hP hD hS (lv_sub hl [2, 3, 4, 1, 0] rfl) h
            · have h := (if_pos cc_8).symm.trans h
              refine lv_iconst (v := (1 : Int32)) hx hb dX6_parts_45 (by decide) ?_
              refine lv_goto (tgt := 50) hx hb dX6_parts_46 (by decide) ?_
              refine lv_iand hx hb dX6_parts_50 ?_
              refine lv_istore_n (lv' := [(3, .int (x3 &&& (1 : Int32))), (0, .ref qm), (1, .int x1), (2, .int x2), (4, .int x4)]) hx hb dX6_parts_51 rfl hl (by decide) rfl (fun ls hl => ?_)
              refine lv_iinc (v := (x4 + (1 : Int32))) (lv' := [(4, .int (x4 + (1 : Int32))), (3, .int (x3 &&& (1 : Int32))), (0, .ref qm), (1, .int x1), (2, .int x2)]) hx hb dX6_parts_52 hl (k := 4) rfl rfl (by decide) rfl (fun ls hl => ?_)
              refine lv_goto (tgt := 26) hx hb dX6_parts_55 (by decide) ?_
              exact ih26 x1 x2 (x3 &&& (1 : Int32)) (x4 + (1 : Int32)) m_w m_may m_least _ _ _ hP hD hS (lv_sub hl [2, 3, 4, 1, 0] rfl) h
      refine lv_iload_n hx hb dX6_parts_4 rfl (lv_at hl 2 rfl) ?_
      refine lv_aload_n hx hb dX6_parts_5 rfl (lv_at hl 0 rfl) ?_
      refine va_get (D := D) (ci := 6) (v := .ref qm_w) (C := RX6) (T := TX6) (N := 29) hx hb hu k_iX6 hown hK hP 0 rfl rfl 0 (by decide) (hu _ u_718) (fun _ h9 => h9) rfl dX6_parts_6 ?_
      refine lv_iconst (v := (0 : Int32)) hx hb dX6_parts_9 (by decide) ?_
      refine va_iald (D := D) hx hb hK hP 1 0 rfl rfl (inb_in (by decide)) dX6_parts_10 ?_
      refine lv_icmp_ge (tgt := 76) hx hb dX6_parts_11 (by decide) (fun cc_1 => ?_) (fun cc_1 => ?_)
      · have h := (if_pos cc_1).symm.trans h
        refine lv_iload_n hx hb dX6_parts_76 rfl (lv_at hl 1 rfl) ?_
        have hq := Option.some.inj h
        clear h
        obtain ⟨e0, hq0⟩ := Prod.mk.inj hq
        clear hq
        obtain ⟨e1, hq1⟩ := Prod.mk.inj hq0
        clear hq0
        subst e0
        subst e1
        subst hq1
        exact k_retI hx hb hr hlocks hP hD hS dX6_parts_77
      · have h := (if_neg cc_1).symm.trans h
        refine lv_aload_n hx hb dX6_parts_14 rfl (lv_at hl 0 rfl) ?_
        refine lv_iload_n hx hb dX6_parts_15 rfl (lv_at hl 2 rfl) ?_
        refine lv_bipush (v := (-9 : Int32)) hx hb dX6_parts_16 (by decide) ?_
        obtain ⟨⟨o_2, o_3⟩, hc_4, h⟩ := ob_bind h
        dsimp only at h
        refine k_callVV (qb := 0) [0, 1, 2, 3] [2, 3] [2, 3] [(qm_may, .inl (cZ, 18, .inl o_2)), (qm_least, .inl (cI, 9, .inl o_3))] (As := [.int x2, .int (-9 : Int32)]) (rest := []) ⟨hx, hb, hml, hown, hts⟩ hT hZ hA hP hD hS (c_X6_layTrue l D cI cZ cN aK aV qm qm_w qm_past qm_images qm_text qm_may qm_least qm_isCarried qm_list qm_nodes qm_kept qm_keptLow qm_keptHigh qm_keptNodes qm_numbers qm_sums qm_commands qm_held m_w m_pastMany m_filled m_length m_may m_least m_listMany m_went m_cost m_cause m_looks m_isSent m_isOld m_keptMany m_commandMany x2 (-9 : Int32) o_2 o_3 hc_4) ⟨callB_of 2 hts (k_good u_900) rfl rfl rfl (hu _ u_51) (hu _ u_897) (by decide +kernel) ⟨Nat.le_of_ble_eq_true rfl, Nat.le_of_ble_eq_true rfl⟩, hu _ u_899, hu _ u_30⟩ rfl rfl rfl (by decide) (by decide) (by decide) rfl rfl rfl rfl hl.1 rfl (Nat.le_of_ble_eq_true rfl) dX6_parts_18 (fun H locs hP hD hS => ?_)
        have hP : va_P D vwCl [(qm, .inr (6, [.ref qm_w, .ref qm_past, .int m_pastMany, .ref qm_images, .int m_filled, .ref qm_text, .int m_length, .ref qm_may, .ref qm_least, .ref qm_isCarried, .ref qm_list, .ref qm_nodes, .int m_listMany, .int m_went, .int m_cost, .int m_cause, .int m_looks, .int m_isSent, .int m_isOld, .ref qm_kept, .ref qm_keptLow, .ref qm_keptHigh, .int m_keptMany, .ref qm_keptNodes, .ref qm_numbers, .ref qm_sums, .ref qm_commands, .int m_commandMany, .ref qm_held])), (qm_w, .inl (cI, 93, .inl m_w)), (qm_may, .inl (cZ, 18, .inl o_2)), (qm_least, .inl (cI, 9, .inl o_3))] H := hP
        have hD : va_D A [(qm, .inr (6, [.ref qm_w, .ref qm_past, .int m_pastMany, .ref qm_images, .int m_filled, .ref qm_text, .int m_length, .ref qm_may, .ref qm_least, .ref qm_isCarried, .ref qm_list, .ref qm_nodes, .int m_listMany, .int m_went, .int m_cost, .int m_cause, .int m_looks, .int m_isSent, .int m_isOld, .ref qm_kept, .ref qm_keptLow, .ref qm_keptHigh, .int m_keptMany, .ref qm_keptNodes, .ref qm_numbers, .ref qm_sums, .ref qm_commands, .int m_commandMany, .ref qm_held])), (qm_w, .inl (cI, 93, .inl m_w)), (qm_may, .inl (cZ, 18, .inl o_2)), (qm_least, .inl (cI, 9, .inl o_3))] := hD
        refine lv_iconst (v := (1 : Int32)) hx hb dX6_parts_21 (by decide) ?_
        refine lv_istore_n (lv' := [(3, .int (1 : Int32)), (0, .ref qm), (1, .int x1), (2, .int x2)]) hx hb dX6_parts_22 rfl hl (by decide) rfl (fun ls hl => ?_)
        refine lv_iconst (v := (0 : Int32)) hx hb dX6_parts_23 (by decide) ?_
        refine lv_istore (lv' := [(4, .int (0 : Int32)), (3, .int (1 : Int32)), (0, .ref qm), (1, .int x1), (2, .int x2)]) hx hb dX6_parts_24 hl (by decide) rfl (fun ls hl => ?_)
        exact w26 1000 x1 x2 (1 : Int32) (0 : Int32) m_w o_2 o_3 _ _ _ hP hD hS (lv_sub hl [2, 3, 4, 1, 0] rfl) h
  refine lv_iconst (v := (0 : Int32)) hx hb dX6_parts_0 (by decide) ?_
  refine lv_istore_n (lv' := [(1, .int (0 : Int32)), (0, .ref qm)]) hx hb dX6_parts_1 rfl hl (by decide) rfl (fun ls hl => ?_)
  refine lv_iconst (v := (0 : Int32)) hx hb dX6_parts_2 (by decide) ?_
  refine lv_istore_n (lv' := [(2, .int (0 : Int32)), (1, .int (0 : Int32)), (0, .ref qm)]) hx hb dX6_parts_3 rfl hl (by decide) rfl (fun ls hl => ?_)
  exact w4 1000 (0 : Int32) (0 : Int32) m_w m_may m_least _ _ _ hP hD hS (lv_sub hl [2, 1, 0] rfl) h
def f_X6_pairsWith_b23 (k4 : Int32 → Int32 → Int32 → (Nat → Int32) → (Nat → Int32) → (Nat → Int32) → Option (Int32 × (Nat → Int32) × (Nat → Int32))) : Nat → Int32 → Int32 → Int32 → Int32 → (Nat → Int32) → (Nat → Int32) → (Nat → Int32) → Option (Int32 × (Nat → Int32) × (Nat → Int32))
  | 0, _, _, _, _, _, _, _ => none
  | n + 1, x1, x2, x3, x4, m_w, m_may, m_least =>
    if (m_w (Int32.toNatClampNeg (0 : Int32))) ≤ x4 then
      k4 x1 x2 (x3 + (1 : Int32)) m_w m_may m_least
    else
      if x4 = x3 then
        (f_X6_pairsWith_b23 k4 n) x1 (x2 + (0 : Int32)) x3 (x4 + (1 : Int32)) m_w m_may m_least
      else
        if inb x4 9 = true then
        if (1000000 : Int32) ≤ (m_least (Int32.toNatClampNeg x4)) then
          (f_X6_pairsWith_b23 k4 n) x1 (x2 + (0 : Int32)) x3 (x4 + (1 : Int32)) m_w m_may m_least
        else
          (f_X6_pairsWith_b23 k4 n) x1 (x2 + (1 : Int32)) x3 (x4 + (1 : Int32)) m_w m_may m_least
        else none
def f_X6_pairsWith_b4  : Nat → Int32 → Int32 → Int32 → (Nat → Int32) → (Nat → Int32) → (Nat → Int32) → Option (Int32 × (Nat → Int32) × (Nat → Int32))
  | 0, _, _, _, _, _, _ => none
  | n + 1, x1, x2, x3, m_w, m_may, m_least =>
    if (m_w (Int32.toNatClampNeg (0 : Int32))) ≤ x3 then
      some (x2, m_may, m_least)
    else
      (f_X6_layTrue x3 x1 m_w m_may m_least).bind fun ⟨o_2, o_3⟩ =>
      f_X6_pairsWith_b23 (f_X6_pairsWith_b4 n) 1000 x1 x2 x3 (0 : Int32) m_w o_2 o_3
def f_X6_pairsWith (p1 : Int32) (m_w : (Nat → Int32)) (m_may : (Nat → Int32)) (m_least : (Nat → Int32)) : Option (Int32 × (Nat → Int32) × (Nat → Int32)) :=
  f_X6_pairsWith_b4 1000 p1 (0 : Int32) (0 : Int32) m_w m_may m_least
set_option maxHeartbeats 4000000 in
set_option maxRecDepth 100000 in
theorem c_X6_pairsWith (l : Launch) (D : va_G) (cI cZ cN : ClassId) (aK aV : Nat → Nat)  (qm : Nat) (qm_w : Nat) (qm_past : Nat) (qm_images : Nat) (qm_text : Nat) (qm_may : Nat) (qm_least : Nat) (qm_isCarried : Nat) (qm_list : Nat) (qm_nodes : Nat) (qm_kept : Nat) (qm_keptLow : Nat) (qm_keptHigh : Nat) (qm_keptNodes : Nat) (qm_numbers : Nat) (qm_sums : Nat) (qm_commands : Nat) (qm_held : Nat) (m_w : (Nat → Int32)) (m_pastMany : Int32) (m_filled : Int32) (m_length : Int32) (m_may : (Nat → Int32)) (m_least : (Nat → Int32)) (m_listMany : Int32) (m_went : Int32) (m_cost : Int32) (m_cause : Int32) (m_looks : Int32) (m_isSent : Int32) (m_isOld : Int32) (m_keptMany : Int32) (m_commandMany : Int32) (p1 : Int32) (r : Int32) (z_m_may : (Nat → Int32)) (z_m_least : (Nat → Int32)) (h : f_X6_pairsWith p1 m_w m_may m_least = some (r, z_m_may, z_m_least)) : CtI l D cI cZ cN aK aV yX6_pairsWith (k_W yX6_pairsWith cX6_pairsWith 5 (some .int)) { frames := 3, cells := 0, slots := 0, locals := 71 } [.ref qm, .int p1] [(qm, .inr (6, [.ref qm_w, .ref qm_past, .int m_pastMany, .ref qm_images, .int m_filled, .ref qm_text, .int m_length, .ref qm_may, .ref qm_least, .ref qm_isCarried, .ref qm_list, .ref qm_nodes, .int m_listMany, .int m_went, .int m_cost, .int m_cause, .int m_looks, .int m_isSent, .int m_isOld, .ref qm_kept, .ref qm_keptLow, .ref qm_keptHigh, .int m_keptMany, .ref qm_keptNodes, .ref qm_numbers, .ref qm_sums, .ref qm_commands, .int m_commandMany, .ref qm_held])), (qm_w, .inl (cI, 93, .inl m_w)), (qm_may, .inl (cZ, 18, .inl m_may)), (qm_least, .inl (cI, 9, .inl m_least))] r [(qm, .inr (6, [.ref qm_w, .ref qm_past, .int m_pastMany, .ref qm_images, .int m_filled, .ref qm_text, .int m_length, .ref qm_may, .ref qm_least, .ref qm_isCarried, .ref qm_list, .ref qm_nodes, .int m_listMany, .int m_went, .int m_cost, .int m_cause, .int m_looks, .int m_isSent, .int m_isOld, .ref qm_kept, .ref qm_keptLow, .ref qm_keptHigh, .int m_keptMany, .ref qm_keptNodes, .ref qm_numbers, .ref qm_sums, .ref qm_commands, .int m_commandMany, .ref qm_held])), (qm_w, .inl (cI, 93, .inl m_w)), (qm_may, .inl (cZ, 18, .inl z_m_may)), (qm_least, .inl (cI, 9, .inl z_m_least))] := by
  refine k_startI (by decide) (Nat.le_of_ble_eq_true rfl) ?_
  intro p e s m below meth c A ls hx hb hr hml hown hts hlocks hT hZ hA hP hD hS hl
  have hK := hT.1
  have hu : ∀ w ∈ k_U, w.before ([.ref qm, .int p1] : List Value).toArray s = true := fun w h => hts w (List.mem_cons_of_mem _ h)
  have hown : s.vm.findClass RX6 = some m.cls := hown
  have hl : lv_has ls 5 [(0, .ref qm), (1, .int p1)] := hl
  unfold f_X6_pairsWith at h
  have w4 : ∀ (n4 : Nat) (x1 : Int32) (x2 : Int32) (x3 : Int32) (m_w : (Nat → Int32)) (m_may : (Nat → Int32)) (m_least : (Nat → Int32)) (H : Heap) (locs : List Loc) (ls : Array Slot), va_P D vwCl [(qm, .inr (6, [.ref qm_w, .ref qm_past, .int m_pastMany, .ref qm_images, .int m_filled, .ref qm_text, .int m_length, .ref qm_may, .ref qm_least, .ref qm_isCarried, .ref qm_list, .ref qm_nodes, .int m_listMany, .int m_went, .int m_cost, .int m_cause, .int m_looks, .int m_isSent, .int m_isOld, .ref qm_kept, .ref qm_keptLow, .ref qm_keptHigh, .int m_keptMany, .ref qm_keptNodes, .ref qm_numbers, .ref qm_sums, .ref qm_commands, .int m_commandMany, .ref qm_held])), (qm_w, .inl (cI, 93, .inl m_w)), (qm_may, .inl (cZ, 18, .inl m_may)), (qm_least, .inl (cI, 9, .inl m_least))] H → va_D A [(qm, .inr (6, [.ref qm_w, .ref qm_past, .int m_pastMany, .ref qm_images, .int m_filled, .ref qm_text, .int m_length, .ref qm_may, .ref qm_least, .ref qm_isCarried, .ref qm_list, .ref qm_nodes, .int m_listMany, .int m_went, .int m_cost, .int m_cause, .int m_looks, .int m_isSent, .int m_isOld, .ref qm_kept, .ref qm_keptLow, .ref qm_keptHigh, .int m_keptMany, .ref qm_keptNodes, .ref qm_numbers, .ref qm_sums, .ref qm_commands, .int m_commandMany, .ref qm_held])), (qm_w, .inl (cI, 93, .inl m_w)), (qm_may, .inl (cZ, 18, .inl m_may)), (qm_least, .inl (cI, 9, .inl m_least))] → va_S A s.heap H locs → lv_has ls 5 [(0, .ref qm), (1, .int x1), (2, .int x2), (3, .int x3)] → f_X6_pairsWith_b4 n4 x1 x2 x3 m_w m_may m_least = some (r, z_m_may, z_m_least) → W p l e { frames := 3, cells := 0, slots := 0, locals := 71 } s m ([.ref qm, .int p1] : List Value).toArray below meth c H locs 0 0 (MQ below (k_QI D r [(qm, .inr (6, [.ref qm_w, .ref qm_past, .int m_pastMany, .ref qm_images, .int m_filled, .ref qm_text, .int m_length, .ref qm_may, .ref qm_least, .ref qm_isCarried, .ref qm_list, .ref qm_nodes, .int m_listMany, .int m_went, .int m_cost, .int m_cause, .int m_looks, .int m_isSent, .int m_isOld, .ref qm_kept, .ref qm_keptLow, .ref qm_keptHigh, .int m_keptMany, .ref qm_keptNodes, .ref qm_numbers, .ref qm_sums, .ref qm_commands, .int m_commandMany, .ref qm_held])), (qm_w, .inl (cI, 93, .inl m_w)), (qm_may, .inl (cZ, 18, .inl z_m_may)), (qm_least, .inl (cI, 9, .inl z_m_least))] A) ([.ref qm, .int p1] : List Value).toArray s 0 0 A) (F0 m 4 ls []) := by
    intro n4
    induction n4 with
    | zero =>
      intro x1 x2 x3 m_w m_may m_least H locs ls hP hD hS hl h
      rw [f_X6_pairsWith_b4] at h
      cases h
    | succ n4 ih4 =>
      intro x1 x2 x3 m_w m_may m_least H locs ls hP hD hS hl h
      rw [f_X6_pairsWith_b4] at h
      have w23 : ∀ (n23 : Nat) (x1 : Int32) (x2 : Int32) (x3 : Int32) (x4 : Int32) (m_w : (Nat → Int32)) (m_may : (Nat → Int32)) (m_least : (Nat → Int32)) (H : Heap) (locs : List Loc) (ls : Array Slot), va_P D vwCl [(qm, .inr (6, [.ref qm_w, .ref qm_past, .int m_pastMany, .ref qm_images, .int m_filled, .ref qm_text, .int m_length, .ref qm_may, .ref qm_least, .ref qm_isCarried, .ref qm_list, .ref qm_nodes, .int m_listMany, .int m_went, .int m_cost, .int m_cause, .int m_looks, .int m_isSent, .int m_isOld, .ref qm_kept, .ref qm_keptLow, .ref qm_keptHigh, .int m_keptMany, .ref qm_keptNodes, .ref qm_numbers, .ref qm_sums, .ref qm_commands, .int m_commandMany, .ref qm_held])), (qm_w, .inl (cI, 93, .inl m_w)), (qm_may, .inl (cZ, 18, .inl m_may)), (qm_least, .inl (cI, 9, .inl m_least))] H → va_D A [(qm, .inr (6, [.ref qm_w, .ref qm_past, .int m_pastMany, .ref qm_images, .int m_filled, .ref qm_text, .int m_length, .ref qm_may, .ref qm_least, .ref qm_isCarried, .ref qm_list, .ref qm_nodes, .int m_listMany, .int m_went, .int m_cost, .int m_cause, .int m_looks, .int m_isSent, .int m_isOld, .ref qm_kept, .ref qm_keptLow, .ref qm_keptHigh, .int m_keptMany, .ref qm_keptNodes, .ref qm_numbers, .ref qm_sums, .ref qm_commands, .int m_commandMany, .ref qm_held])), (qm_w, .inl (cI, 93, .inl m_w)), (qm_may, .inl (cZ, 18, .inl m_may)), (qm_least, .inl (cI, 9, .inl m_least))] → va_S A s.heap H locs → lv_has ls 5 [(0, .ref qm), (1, .int x1), (2, .int x2), (3, .int x3), (4, .int x4)] → f_X6_pairsWith_b23 (f_X6_pairsWith_b4 n4) n23 x1 x2 x3 x4 m_w m_may m_least = some (r, z_m_may, z_m_least) → W p l e { frames := 3, cells := 0, slots := 0, locals := 71 } s m ([.ref qm, .int p1] : List Value).toArray below meth c H locs 0 0 (MQ below (k_QI D r [(qm, .inr (6, [.ref qm_w, .ref qm_past, .int m_pastMany, .ref qm_images, .int m_filled, .ref qm_text, .int m_length, .ref qm_may, .ref qm_least, .ref qm_isCarried, .ref qm_list, .ref qm_nodes, .int m_listMany, .int m_went, .int m_cost, .int m_cause, .int m_looks, .int m_isSent, .int m_isOld, .ref qm_kept, .ref qm_keptLow, .ref qm_keptHigh, .int m_keptMany, .ref qm_keptNodes, .ref qm_numbers, .ref qm_sums, .ref qm_commands, .int m_commandMany, .ref qm_held])), (qm_w, .inl (cI, 93, .inl m_w)), (qm_may, .inl (cZ, 18, .inl z_m_may)), (qm_least, .inl (cI, 9, .inl z_m_least))] A) ([.ref qm, .int p1] : List Value).toArray s 0 0 A) (F0 m 23 ls []) := by
        intro n23
        induction n23 with
        | zero =>
          intro x1 x2 x3 x4 m_w m_may m_least H locs ls hP hD hS hl h
          rw [f_X6_pairsWith_b23] at h
          cases h
        | succ n23 ih23 =>
          intro x1 x2 x3 x4 m_w m_may m_least H locs ls hP hD hS hl h
          rw [f_X6_pairsWith_b23] at h
          refine lv_iload hx hb dX6_pairsWith_23 (lv_at hl 4 rfl) ?_
          refine lv_aload_n hx hb dX6_pairsWith_25 rfl (lv_at hl 0 rfl) ?_
          refine va_get (D := D) (ci := 6) (v := .ref qm_w) (C := RX6) (T := TX6) (N := 29) hx hb hu k_iX6 hown hK hP 0 rfl rfl 0 (by decide) (hu _ u_718) (fun _ h9 => h9) rfl dX6_pairsWith_26 ?_
          refine lv_iconst (v := (0 : Int32)) hx hb dX6_pairsWith_29 (by decide) ?_
          refine va_iald (D := D) hx hb hK hP 1 0 rfl rfl (inb_in (by decide)) dX6_pairsWith_30 ?_
          refine lv_icmp_ge (tgt := 66) hx hb dX6_pairsWith_31 (by decide) (fun cc_5 => ?_) (fun cc_5 => ?_)
          · have h := (if_pos cc_5).symm.trans h
            refine lv_iinc (v := (x3 + (1 : Int32))) (lv' := [(3, .int (x3 + (1 : Int32))), (0, .ref qm), (1, .int x1), (2, .int x2), (4, .int x4)]) hx hb dX6_pairsWith_66 hl (k := 3) rfl rfl (by decide) rfl (fun ls hl => ?_)
            refine lv_goto (tgt := 4) hx hb dX6_pairsWith_69 (by decide) ?_
            exact ih4 x1 x2 (x3 + (1 : Int32)) m_w m_may m_least _ _ _ hP hD hS (lv_sub hl [1, 2, 3, 0] rfl) h
          · have h := (if_neg cc_5).symm.trans h
            refine lv_iload_n hx hb dX6_pairsWith_34 rfl (lv_at hl 2 rfl) ?_
            refine lv_iload hx hb dX6_pairsWith_35 (lv_at hl 4 rfl) ?_
            refine lv_iload_n hx hb dX6_pairsWith_37 rfl (lv_at hl 3 rfl) ?_
            refine lv_icmp_eq (tgt := 57) hx hb dX6_pairsWith_38 (by decide) (fun cc_6 => ?_) (fun cc_6 => ?_)
            · have h := (if_pos cc_6).symm.trans h
              refine lv_iconst (v := (0 : Int32)) hx hb dX6_pairsWith_57 (by decide) ?_
              refine lv_iadd hx hb dX6_pairsWith_58 ?_
              refine lv_istore_n (lv' := [(2, .int (x2 + (0 : Int32))), (0, .ref qm), (1, .int x1), (3, .int x3), (4, .int x4)]) hx hb dX6_pairsWith_59 rfl hl (by decide) rfl (fun ls hl => ?_)
              refine lv_iinc (v := (x4 + (1 : Int32))) (lv' := [(4, .int (x4 + (1 : Int32))), (2, .int (x2 + (0 : Int32))), (0, .ref qm), (1, .int x1), (3, .int x3)]) hx hb dX6_pairsWith_60 hl (k := 4) rfl rfl (by decide) rfl (fun ls hl => ?_)
              refine lv_goto (tgt := 23) hx hb dX6_pairsWith_63 (by decide) ?_
              exact ih23 x1 (x2 + (0 : Int32)) x3 (x4 + (1 : Int32)) m_w m_may m_least _ _ _ hP hD hS (lv_sub hl [2, 3, 1, 4, 0] rfl) h
            · have h := (if_neg cc_6).symm.trans h
              refine lv_aload_n hx hb dX6_pairsWith_41 rfl (lv_at hl 0 rfl) ?_
              refine va_get (D := D) (ci := 6) (v := .ref qm_least) (C := RX6) (T := TX6) (N := 29) hx hb hu k_iX6 hown hK hP 0 rfl rfl 8 (by decide) (hu _ u_726) (fun _ h9 => h9) rfl dX6_pairsWith_42 ?_
              refine lv_iload hx hb dX6_pairsWith_45 (lv_at hl 4 rfl) ?_
              obtain ⟨hin_7, h⟩ := ob_if h
              have hin_7 := inb_in hin_7
              refine va_iald (D := D) hx hb hK hP 3 0 rfl rfl hin_7 dX6_pairsWith_47 ?_
              refine lv_ldc (v := (1000000 : Int32)) hx hb hown (hu _ u_905) dX6_pairsWith_48 ?_
              refine lv_icmp_ge (tgt := 57) hx hb dX6_pairsWith_50 (by decide) (fun cc_8 => ?_) (fun cc_8 => ?_)
              · have h := (if_pos cc_8).symm.trans h
                refine lv_iconst (v := (0 : Int32)) hx hb dX6_pairsWith_57 (by decide) ?_
                refine lv_iadd hx hb dX6_pairsWith_58 ?_
                refine lv_istore_n (lv' := [(2, .int (x2 + (0 : Int32))), (0, .ref qm), (1, .int x1), (3, .int x3), (4, .int x4)]) hx hb dX6_pairsWith_59 rfl hl (by decide) rfl (fun ls hl => ?_)
                refine lv_iinc (v := (x4 + (1 : Int32))) (lv' := [(4, .int (x4 + (1 : Int32))), (2, .int (x2 + (0 : Int32))), (0, .ref qm), (1, .int x1), (3, .int x3)]) hx hb dX6_pairsWith_60 hl (k := 4) rfl rfl (by decide) rfl (fun ls hl => ?_)
                refine lv_goto (tgt := 23) hx hb dX6_pairsWith_63 (by decide) ?_
                exact ih23 x1 (x2 + (0 : Int32)) x3 (x4 + (1 : Int32)) m_w m_may m_least _ _ _ hP hD hS (lv_sub hl [2, 3, 1, 4, 0] rfl) h
              · have h := (if_neg cc_8).symm.trans h
                refine lv_iconst (v := (1 : Int32)) hx hb dX6_pairsWith_53 (by decide) ?_
                refine lv_goto (tgt := 58) hx hb dX6_pairsWith_54 (by decide) ?_
                refine lv_iadd hx hb dX6_pairsWith_58 ?_
                refine lv_istore_n (lv' := [(2, .int (x2 + (1 : Int32))), (0, .ref qm), (1, .int x1), (3, .int x3), (4, .int x4)]) hx hb dX6_pairsWith_59 rfl hl (by decide) rfl (fun ls hl => ?_)
                refine lv_iinc (v := (x4 + (1 : Int32))) (lv' := [(4, .int (x4 + (1 : Int32))), (2, .int (x2 + (1 : Int32))), (0, .ref qm), (1, .int x1), (3, .int x3)]) hx hb dX6_pairsWith_60 hl (k := 4) rfl rfl (by decide) rfl (fun ls hl => ?_)
                refine lv_goto (tgt := 23) hx hb dX6_pairsWith_63 (by decide) ?_
                exact ih23 x1 (x2 + (1 : Int32)) x3 (x4 + (1 : Int32)) m_w m_may m_least _ _ _ hP hD hS (lv_sub hl [2, 3, 1, 4, 0] rfl) h
      refine lv_iload_n hx hb dX6_pairsWith_4 rfl (lv_at hl 3 rfl) ?_
      refine lv_aload_n hx hb dX6_pairsWith_5 rfl (lv_at hl 0 rfl) ?_
      refine va_get (D := D) (ci := 6) (v := .ref qm_w) (C := RX6) (T := TX6) (N := 29) hx hb hu k_iX6 hown hK hP 0 rfl rfl 0 (by decide) (hu _ u_718) (fun _ h9 => h9) rfl dX6_pairsWith_6 ?_
      refine lv_iconst (v := (0 : Int32)) hx hb dX6_pairsWith_9 (by decide) ?_
      refine va_iald (D := D) hx hb hK hP 1 0 rfl rfl (inb_in (by decide)) dX6_pairsWith_10 ?_
      refine lv_icmp_ge (tgt := 72) hx hb dX6_pairsWith_11 (by decide) (fun cc_1 => ?_) (fun cc_1 => ?_)
      · have h := (if_pos cc_1).symm.trans h
        refine lv_iload_n hx hb dX6_pairsWith_72 rfl (lv_at hl 2 rfl) ?_
        have hq := Option.some.inj h
        clear h
        obtain ⟨e0, hq0⟩ := Prod.mk.inj hq
        clear hq
        obtain ⟨e1, hq1⟩ := Prod.mk.inj hq0
        clear hq0
        subst e0
        subst e1
        subst hq1
        exact k_retI hx hb hr hlocks hP hD hS dX6_pairsWith_73
      · have h := (if_neg cc_1).symm.trans h
        refine lv_aload_n hx hb dX6_pairsWith_14 rfl (lv_at hl 0 rfl) ?_
        refine lv_iload_n hx hb dX6_pairsWith_15 rfl (lv_at hl 3 rfl) ?_
        refine lv_iload_n hx hb dX6_pairsWith_16 rfl (lv_at hl 1 rfl) ?_
        obtain ⟨⟨o_2, o_3⟩, hc_4, h⟩ := ob_bind h
        dsimp only at h
        refine k_callVV (qb := 0) [0, 1, 2, 3] [2, 3] [2, 3] [(qm_may, .inl (cZ, 18, .inl o_2)), (qm_least, .inl (cI, 9, .inl o_3))] (As := [.int x3, .int x1]) (rest := []) ⟨hx, hb, hml, hown, hts⟩ hT hZ hA hP hD hS (c_X6_layTrue l D cI cZ cN aK aV qm qm_w qm_past qm_images qm_text qm_may qm_least qm_isCarried qm_list qm_nodes qm_kept qm_keptLow qm_keptHigh qm_keptNodes qm_numbers qm_sums qm_commands qm_held m_w m_pastMany m_filled m_length m_may m_least m_listMany m_went m_cost m_cause m_looks m_isSent m_isOld m_keptMany m_commandMany x3 x1 o_2 o_3 hc_4) ⟨callB_of 2 hts (k_good u_900) rfl rfl rfl (hu _ u_51) (hu _ u_897) (by decide +kernel) ⟨Nat.le_of_ble_eq_true rfl, Nat.le_of_ble_eq_true rfl⟩, hu _ u_899, hu _ u_30⟩ rfl rfl rfl (by decide) (by decide) (by decide) rfl rfl rfl rfl hl.1 rfl (Nat.le_of_ble_eq_true rfl) dX6_pairsWith_17 (fun H locs hP hD hS => ?_)
        have hP : va_P D vwCl [(qm, .inr (6, [.ref qm_w, .ref qm_past, .int m_pastMany, .ref qm_images, .int m_filled, .ref qm_text, .int m_length, .ref qm_may, .ref qm_least, .ref qm_isCarried, .ref qm_list, .ref qm_nodes, .int m_listMany, .int m_went, .int m_cost, .int m_cause, .int m_looks, .int m_isSent, .int m_isOld, .ref qm_kept, .ref qm_keptLow, .ref qm_keptHigh, .int m_keptMany, .ref qm_keptNodes, .ref qm_numbers, .ref qm_sums, .ref qm_commands, .int m_commandMany, .ref qm_held])), (qm_w, .inl (cI, 93, .inl m_w)), (qm_may, .inl (cZ, 18, .inl o_2)), (qm_least, .inl (cI, 9, .inl o_3))] H := hP
        have hD : va_D A [(qm, .inr (6, [.ref qm_w, .ref qm_past, .int m_pastMany, .ref qm_images, .int m_filled, .ref qm_text, .int m_length, .ref qm_may, .ref qm_least, .ref qm_isCarried, .ref qm_list, .ref qm_nodes, .int m_listMany, .int m_went, .int m_cost, .int m_cause, .int m_looks, .int m_isSent, .int m_isOld, .ref qm_kept, .ref qm_keptLow, .ref qm_keptHigh, .int m_keptMany, .ref qm_keptNodes, .ref qm_numbers, .ref qm_sums, .ref qm_commands, .int m_commandMany, .ref qm_held])), (qm_w, .inl (cI, 93, .inl m_w)), (qm_may, .inl (cZ, 18, .inl o_2)), (qm_least, .inl (cI, 9, .inl o_3))] := hD
        refine lv_iconst (v := (0 : Int32)) hx hb dX6_pairsWith_20 (by decide) ?_
        refine lv_istore (lv' := [(4, .int (0 : Int32)), (0, .ref qm), (1, .int x1), (2, .int x2), (3, .int x3)]) hx hb dX6_pairsWith_21 hl (by decide) rfl (fun ls hl => ?_)
        exact w23 1000 x1 x2 x3 (0 : Int32) m_w o_2 o_3 _ _ _ hP hD hS (lv_sub hl [1, 2, 3, 4, 0] rfl) h
  refine lv_iconst (v := (0 : Int32)) hx hb dX6_pairsWith_0 (by decide) ?_
  refine lv_istore_n (lv' := [(2, .int (0 : Int32)), (0, .ref qm), (1, .int p1)]) hx hb dX6_pairsWith_1 rfl hl (by decide) rfl (fun ls hl => ?_)
  refine lv_iconst (v := (0 : Int32)) hx hb dX6_pairsWith_2 (by decide) ?_
  refine lv_istore_n (lv' := [(3, .int (0 : Int32)), (2, .int (0 : Int32)), (0, .ref qm), (1, .int p1)]) hx hb dX6_pairsWith_3 rfl hl (by decide) rfl (fun ls hl => ?_)
  exact w4 1000 p1 (0 : Int32) (0 : Int32) m_w m_may m_least _ _ _ hP hD hS (lv_sub hl [2, 3, 1, 0] rfl) h
def f_X6_count_b5  : Nat → Int32 → Int32 → Int32 → Int32 → (Nat → Int32) → Option (Int32)
  | 0, _, _, _, _, _ => none
  | n + 1, x1, x2, x3, x4, m_w =>
    if (m_w (Int32.toNatClampNeg (1 : Int32))) ≤ x4 then
      some (x3)
    else
      (f_X6_of x4 x1 m_w).bind fun r_2 =>
      if r_2 = x2 then
        (f_X6_count_b5 n) x1 x2 (x3 + (1 : Int32)) (x4 + (1 : Int32)) m_w
      else
        (f_X6_count_b5 n) x1 x2 (x3 + (0 : Int32)) (x4 + (1 : Int32)) m_w
def f_X6_count (p1 : Int32) (p2 : Int32) (m_w : (Nat → Int32)) : Option (Int32) :=
  f_X6_count_b5 1000 p1 p2 (0 : Int32) (0 : Int32) m_w
set_option maxHeartbeats 4000000 in
set_option maxRecDepth 100000 in
theorem c_X6_count (l : Launch) (D : va_G) (cI cZ cN : ClassId) (aK aV : Nat → Nat)  (qm : Nat) (qm_w : Nat) (qm_past : Nat) (qm_images : Nat) (qm_text : Nat) (qm_may : Nat) (qm_least : Nat) (qm_isCarried : Nat) (qm_list : Nat) (qm_nodes : Nat) (qm_kept : Nat) (qm_keptLow : Nat) (qm_keptHigh : Nat) (qm_keptNodes : Nat) (qm_numbers : Nat) (qm_sums : Nat) (qm_commands : Nat) (qm_held : Nat) (m_w : (Nat → Int32)) (m_pastMany : Int32) (m_filled : Int32) (m_length : Int32) (m_listMany : Int32) (m_went : Int32) (m_cost : Int32) (m_cause : Int32) (m_looks : Int32) (m_isSent : Int32) (m_isOld : Int32) (m_keptMany : Int32) (m_commandMany : Int32) (p1 p2 : Int32) (r : Int32) (h : f_X6_count p1 p2 m_w = some r) : CtI l D cI cZ cN aK aV yX6_count (k_W yX6_count cX6_count 5 (some .int)) { frames := 1, cells := 0, slots := 0, locals := 22 } [.ref qm, .int p1, .int p2] [(qm, .inr (6, [.ref qm_w, .ref qm_past, .int m_pastMany, .ref qm_images, .int m_filled, .ref qm_text, .int m_length, .ref qm_may, .ref qm_least, .ref qm_isCarried, .ref qm_list, .ref qm_nodes, .int m_listMany, .int m_went, .int m_cost, .int m_cause, .int m_looks, .int m_isSent, .int m_isOld, .ref qm_kept, .ref qm_keptLow, .ref qm_keptHigh, .int m_keptMany, .ref qm_keptNodes, .ref qm_numbers, .ref qm_sums, .ref qm_commands, .int m_commandMany, .ref qm_held])), (qm_w, .inl (cI, 93, .inl m_w))] r [(qm, .inr (6, [.ref qm_w, .ref qm_past, .int m_pastMany, .ref qm_images, .int m_filled, .ref qm_text, .int m_length, .ref qm_may, .ref qm_least, .ref qm_isCarried, .ref qm_list, .ref qm_nodes, .int m_listMany, .int m_went, .int m_cost, .int m_cause, .int m_looks, .int m_isSent, .int m_isOld, .ref qm_kept, .ref qm_keptLow, .ref qm_keptHigh, .int m_keptMany, .ref qm_keptNodes, .ref qm_numbers, .ref qm_sums, .ref qm_commands, .int m_commandMany, .ref qm_held])), (qm_w, .inl (cI, 93, .inl m_w))] := by
  refine k_startI (by decide) (Nat.le_of_ble_eq_true rfl) ?_
  intro p e s m below meth c A ls hx hb hr hml hown hts hlocks hT hZ hA hP hD hS hl
  have hK := hT.1
  have hu : ∀ w ∈ k_U, w.before ([.ref qm, .int p1, .int p2] : List Value).toArray s = true := fun w h => hts w (List.mem_cons_of_mem _ h)
  have hown : s.vm.findClass RX6 = some m.cls := hown
  have hl : lv_has ls 5 [(0, .ref qm), (1, .int p1), (2, .int p2)] := hl
  unfold f_X6_count at h
  have w5 : ∀ (n5 : Nat) (x1 : Int32) (x2 : Int32) (x3 : Int32) (x4 : Int32) (m_w : (Nat → Int32)) (H : Heap) (locs : List Loc) (ls : Array Slot), va_P D vwCl [(qm, .inr (6, [.ref qm_w, .ref qm_past, .int m_pastMany, .ref qm_images, .int m_filled, .ref qm_text, .int m_length, .ref qm_may, .ref qm_least, .ref qm_isCarried, .ref qm_list, .ref qm_nodes, .int m_listMany, .int m_went, .int m_cost, .int m_cause, .int m_looks, .int m_isSent, .int m_isOld, .ref qm_kept, .ref qm_keptLow, .ref qm_keptHigh, .int m_keptMany, .ref qm_keptNodes, .ref qm_numbers, .ref qm_sums, .ref qm_commands, .int m_commandMany, .ref qm_held])), (qm_w, .inl (cI, 93, .inl m_w))] H → va_D A [(qm, .inr (6, [.ref qm_w, .ref qm_past, .int m_pastMany, .ref qm_images, .int m_filled, .ref qm_text, .int m_length, .ref qm_may, .ref qm_least, .ref qm_isCarried, .ref qm_list, .ref qm_nodes, .int m_listMany, .int m_went, .int m_cost, .int m_cause, .int m_looks, .int m_isSent, .int m_isOld, .ref qm_kept, .ref qm_keptLow, .ref qm_keptHigh, .int m_keptMany, .ref qm_keptNodes, .ref qm_numbers, .ref qm_sums, .ref qm_commands, .int m_commandMany, .ref qm_held])), (qm_w, .inl (cI, 93, .inl m_w))] → va_S A s.heap H locs → lv_has ls 5 [(0, .ref qm), (1, .int x1), (2, .int x2), (3, .int x3), (4, .int x4)] → f_X6_count_b5 n5 x1 x2 x3 x4 m_w = some r → W p l e { frames := 1, cells := 0, slots := 0, locals := 22 } s m ([.ref qm, .int p1, .int p2] : List Value).toArray below meth c H locs 0 0 (MQ below (k_QI D r [(qm, .inr (6, [.ref qm_w, .ref qm_past, .int m_pastMany, .ref qm_images, .int m_filled, .ref qm_text, .int m_length, .ref qm_may, .ref qm_least, .ref qm_isCarried, .ref qm_list, .ref qm_nodes, .int m_listMany, .int m_went, .int m_cost, .int m_cause, .int m_looks, .int m_isSent, .int m_isOld, .ref qm_kept, .ref qm_keptLow, .ref qm_keptHigh, .int m_keptMany, .ref qm_keptNodes, .ref qm_numbers, .ref qm_sums, .ref qm_commands, .int m_commandMany, .ref qm_held])), (qm_w, .inl (cI, 93, .inl m_w))] A) ([.ref qm, .int p1, .int p2] : List Value).toArray s 0 0 A) (F0 m 5 ls []) := by
    intro n5
    induction n5 with
    | zero =>
      intro x1 x2 x3 x4 m_w H locs ls hP hD hS hl h
      rw [f_X6_count_b5] at h
      cases h
    | succ n5 ih5 =>
      intro x1 x2 x3 x4 m_w H locs ls hP hD hS hl h
      rw [f_X6_count_b5] at h
      refine lv_iload hx hb dX6_count_5 (lv_at hl 4 rfl) ?_
      refine lv_aload_n hx hb dX6_count_7 rfl (lv_at hl 0 rfl) ?_
      refine va_get (D := D) (ci := 6) (v := .ref qm_w) (C := RX6) (T := TX6) (N := 29) hx hb hu k_iX6 hown hK hP 0 rfl rfl 0 (by decide) (hu _ u_718) (fun _ h9 => h9) rfl dX6_count_8 ?_
      refine lv_iconst (v := (1 : Int32)) hx hb dX6_count_11 (by decide) ?_
      refine va_iald (D := D) hx hb hK hP 1 0 rfl rfl (inb_in (by decide)) dX6_count_12 ?_
      refine lv_icmp_ge (tgt := 41) hx hb dX6_count_13 (by decide) (fun cc_1 => ?_) (fun cc_1 => ?_)
      · have h := (if_pos cc_1).symm.trans h
        refine lv_iload_n hx hb dX6_count_41 rfl (lv_at hl 3 rfl) ?_
        have hq := Option.some.inj h
        clear h
        subst hq
        exact k_retI hx hb hr hlocks hP hD hS dX6_count_42
      · have h := (if_neg cc_1).symm.trans h
        refine lv_iload_n hx hb dX6_count_16 rfl (lv_at hl 3 rfl) ?_
        refine lv_aload_n hx hb dX6_count_17 rfl (lv_at hl 0 rfl) ?_
        refine lv_iload hx hb dX6_count_18 (lv_at hl 4 rfl) ?_
        refine lv_iload_n hx hb dX6_count_20 rfl (lv_at hl 1 rfl) ?_
        obtain ⟨r_2, hc_3, h⟩ := ob_bind h
        refine k_callVIr (qb := 0) [0, 1] (As := [.int x4, .int x1]) (rest := [.int x3]) ⟨hx, hb, hml, hown, hts⟩ hT hZ hA hP hD hS (c_X6_of l D cI cZ cN aK aV qm qm_w qm_past qm_images qm_text qm_may qm_least qm_isCarried qm_list qm_nodes qm_kept qm_keptLow qm_keptHigh qm_keptNodes qm_numbers qm_sums qm_commands qm_held m_w m_pastMany m_filled m_length m_listMany m_went m_cost m_cause m_looks m_isSent m_isOld m_keptMany m_commandMany x4 x1 r_2 hc_3) ⟨callB_of 2 hts (k_good u_840) rfl rfl rfl (hu _ u_51) (hu _ u_837) (by decide +kernel) ⟨Nat.le_of_ble_eq_true rfl, Nat.le_of_ble_eq_true rfl⟩, hu _ u_839, hu _ u_23⟩ rfl rfl rfl (by decide) rfl hl.1 rfl (Nat.le_of_ble_eq_true rfl) dX6_count_21 (fun H locs hP hD hS => ?_)
        refine lv_iload_n hx hb dX6_count_24 rfl (lv_at hl 2 rfl) ?_
        refine lv_icmp_ne (tgt := 32) hx hb dX6_count_25 (by decide) (fun cc_4 => ?_) (fun cc_4 => ?_)
        · have h := (if_neg cc_4).symm.trans h
          refine lv_iconst (v := (0 : Int32)) hx hb dX6_count_32 (by decide) ?_
          refine lv_iadd hx hb dX6_count_33 ?_
          refine lv_istore_n (lv' := [(3, .int (x3 + (0 : Int32))), (0, .ref qm), (1, .int x1), (2, .int x2), (4, .int x4)]) hx hb dX6_count_34 rfl hl (by decide) rfl (fun ls hl => ?_)
          refine lv_iinc (v := (x4 + (1 : Int32))) (lv' := [(4, .int (x4 + (1 : Int32))), (3, .int (x3 + (0 : Int32))), (0, .ref qm), (1, .int x1), (2, .int x2)]) hx hb dX6_count_35 hl (k := 4) rfl rfl (by decide) rfl (fun ls hl => ?_)
          refine lv_goto (tgt := 5) hx hb dX6_count_38 (by decide) ?_
          exact ih5 x1 x2 (x3 + (0 : Int32)) (x4 + (1 : Int32)) m_w _ _ _ hP hD hS (lv_sub hl [2, 3, 4, 1, 0] rfl) h
        · have h := (if_pos cc_4).symm.trans h
          refine lv_iconst (v := (1 : Int32)) hx hb dX6_count_28 (by decide) ?_
          refine lv_goto (tgt := 33) hx hb dX6_count_29 (by decide) ?_
          refine lv_iadd hx hb dX6_count_33 ?_
          refine lv_istore_n (lv' := [(3, .int (x3 + (1 : Int32))), (0, .ref qm), (1, .int x1), (2, .int x2), (4, .int x4)]) hx hb dX6_count_34 rfl hl (by decide) rfl (fun ls hl => ?_)
          refine lv_iinc (v := (x4 + (1 : Int32))) (lv' := [(4, .int (x4 + (1 : Int32))), (3, .int (x3 + (1 : Int32))), (0, .ref qm), (1, .int x1), (2, .int x2)]) hx hb dX6_count_35 hl (k := 4) rfl rfl (by decide) rfl (fun ls hl => ?_)
          refine lv_goto (tgt := 5) hx hb dX6_count_38 (by decide) ?_
          exact ih5 x1 x2 (x3 + (1 : Int32)) (x4 + (1 : Int32)) m_w _ _ _ hP hD hS (lv_sub hl [2, 3, 4, 1, 0] rfl) h
  refine lv_iconst (v := (0 : Int32)) hx hb dX6_count_0 (by decide) ?_
  refine lv_istore_n (lv' := [(3, .int (0 : Int32)), (0, .ref qm), (1, .int p1), (2, .int p2)]) hx hb dX6_count_1 rfl hl (by decide) rfl (fun ls hl => ?_)
  refine lv_iconst (v := (0 : Int32)) hx hb dX6_count_2 (by decide) ?_
  refine lv_istore (lv' := [(4, .int (0 : Int32)), (3, .int (0 : Int32)), (0, .ref qm), (1, .int p1), (2, .int p2)]) hx hb dX6_count_3 hl (by decide) rfl (fun ls hl => ?_)
  exact w5 1000 p1 p2 (0 : Int32) (0 : Int32) m_w _ _ _ hP hD hS (lv_sub hl [2, 3, 4, 1, 0] rfl) h
