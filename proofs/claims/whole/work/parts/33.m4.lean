def f_X6_wrong_b4  : Nat → Int32 → Int32 → (Nat → Int32) → Option (Int32)
  | 0, _, _, _ => none
  | n + 1, x1, x2, m_w =>
    if (m_w (Int32.toNatClampNeg (1 : Int32))) ≤ x2 then
      some (x1)
    else
      (f_X6_of x2 (3 : Int32) m_w).bind fun r_2 =>
      (f_X6_of x2 (4 : Int32) m_w).bind fun r_4 =>
      if r_2 = r_4 then
        (f_X6_wrong_b4 n) (x1 + (0 : Int32)) (x2 + (1 : Int32)) m_w
      else
        (f_X6_wrong_b4 n) (x1 + (1 : Int32)) (x2 + (1 : Int32)) m_w
def f_X6_wrong (m_w : (Nat → Int32)) : Option (Int32) :=
  f_X6_wrong_b4 1000 (0 : Int32) (0 : Int32) m_w
set_option maxHeartbeats 4000000 in
set_option maxRecDepth 100000 in
theorem c_X6_wrong (l : Launch) (D : va_G) (cI cZ cN : ClassId) (aK aV : Nat → Nat)  (qm : Nat) (qm_w : Nat) (qm_past : Nat) (qm_images : Nat) (qm_text : Nat) (qm_may : Nat) (qm_least : Nat) (qm_isCarried : Nat) (qm_list : Nat) (qm_nodes : Nat) (qm_kept : Nat) (qm_keptLow : Nat) (qm_keptHigh : Nat) (qm_keptNodes : Nat) (qm_numbers : Nat) (qm_sums : Nat) (qm_commands : Nat) (qm_held : Nat) (m_w : (Nat → Int32)) (m_pastMany : Int32) (m_filled : Int32) (m_length : Int32) (m_listMany : Int32) (m_went : Int32) (m_cost : Int32) (m_cause : Int32) (m_looks : Int32) (m_isSent : Int32) (m_isOld : Int32) (m_keptMany : Int32) (m_commandMany : Int32) (r : Int32) (h : f_X6_wrong m_w = some r) : CtI l D cI cZ cN aK aV yX6_wrong (k_W yX6_wrong cX6_wrong 3 (some .int)) { frames := 1, cells := 0, slots := 0, locals := 22 } [.ref qm] [(qm, .inr (6, [.ref qm_w, .ref qm_past, .int m_pastMany, .ref qm_images, .int m_filled, .ref qm_text, .int m_length, .ref qm_may, .ref qm_least, .ref qm_isCarried, .ref qm_list, .ref qm_nodes, .int m_listMany, .int m_went, .int m_cost, .int m_cause, .int m_looks, .int m_isSent, .int m_isOld, .ref qm_kept, .ref qm_keptLow, .ref qm_keptHigh, .int m_keptMany, .ref qm_keptNodes, .ref qm_numbers, .ref qm_sums, .ref qm_commands, .int m_commandMany, .ref qm_held])), (qm_w, .inl (cI, 93, .inl m_w))] r [(qm, .inr (6, [.ref qm_w, .ref qm_past, .int m_pastMany, .ref qm_images, .int m_filled, .ref qm_text, .int m_length, .ref qm_may, .ref qm_least, .ref qm_isCarried, .ref qm_list, .ref qm_nodes, .int m_listMany, .int m_went, .int m_cost, .int m_cause, .int m_looks, .int m_isSent, .int m_isOld, .ref qm_kept, .ref qm_keptLow, .ref qm_keptHigh, .int m_keptMany, .ref qm_keptNodes, .ref qm_numbers, .ref qm_sums, .ref qm_commands, .int m_commandMany, .ref qm_held])), (qm_w, .inl (cI, 93, .inl m_w))] := by
  refine k_startI (by decide) (Nat.le_of_ble_eq_true rfl) ?_
  intro p e s m below meth c A ls hx hb hr hml hown hts hlocks hT hZ hA hP hD hS hl
  have hK := hT.1
  have hu : ∀ w ∈ k_U, w.before ([.ref qm] : List Value).toArray s = true := fun w h => hts w (List.mem_cons_of_mem _ h)
  have hown : s.vm.findClass RX6 = some m.cls := hown
  have hl : lv_has ls 3 [(0, .ref qm)] := hl
  unfold f_X6_wrong at h
  have w4 : ∀ (n4 : Nat) (x1 : Int32) (x2 : Int32) (m_w : (Nat → Int32)) (H : Heap) (locs : List Loc) (ls : Array Slot), va_P D vwCl [(qm, .inr (6, [.ref qm_w, .ref qm_past, .int m_pastMany, .ref qm_images, .int m_filled, .ref qm_text, .int m_length, .ref qm_may, .ref qm_least, .ref qm_isCarried, .ref qm_list, .ref qm_nodes, .int m_listMany, .int m_went, .int m_cost, .int m_cause, .int m_looks, .int m_isSent, .int m_isOld, .ref qm_kept, .ref qm_keptLow, .ref qm_keptHigh, .int m_keptMany, .ref qm_keptNodes, .ref qm_numbers, .ref qm_sums, .ref qm_commands, .int m_commandMany, .ref qm_held])), (qm_w, .inl (cI, 93, .inl m_w))] H → va_D A [(qm, .inr (6, [.ref qm_w, .ref qm_past, .int m_pastMany, .ref qm_images, .int m_filled, .ref qm_text, .int m_length, .ref qm_may, .ref qm_least, .ref qm_isCarried, .ref qm_list, .ref qm_nodes, .int m_listMany, .int m_went, .int m_cost, .int m_cause, .int m_looks, .int m_isSent, .int m_isOld, .ref qm_kept, .ref qm_keptLow, .ref qm_keptHigh, .int m_keptMany, .ref qm_keptNodes, .ref qm_numbers, .ref qm_sums, .ref qm_commands, .int m_commandMany, .ref qm_held])), (qm_w, .inl (cI, 93, .inl m_w))] → va_S A s.heap H locs → lv_has ls 3 [(0, .ref qm), (1, .int x1), (2, .int x2)] → f_X6_wrong_b4 n4 x1 x2 m_w = some r → W p l e { frames := 1, cells := 0, slots := 0, locals := 22 } s m ([.ref qm] : List Value).toArray below meth c H locs 0 0 (MQ below (k_QI D r [(qm, .inr (6, [.ref qm_w, .ref qm_past, .int m_pastMany, .ref qm_images, .int m_filled, .ref qm_text, .int m_length, .ref qm_may, .ref qm_least, .ref qm_isCarried, .ref qm_list, .ref qm_nodes, .int m_listMany, .int m_went, .int m_cost, .int m_cause, .int m_looks, .int m_isSent, .int m_isOld, .ref qm_kept, .ref qm_keptLow, .ref qm_keptHigh, .int m_keptMany, .ref qm_keptNodes, .ref qm_numbers, .ref qm_sums, .ref qm_commands, .int m_commandMany, .ref qm_held])), (qm_w, .inl (cI, 93, .inl m_w))] A) ([.ref qm] : List Value).toArray s 0 0 A) (F0 m 4 ls []) := by
    intro n4
    induction n4 with
    | zero =>
      intro x1 x2 m_w H locs ls hP hD hS hl h
      rw [f_X6_wrong_b4] at h
      cases h
    | succ n4 ih4 =>
      intro x1 x2 m_w H locs ls hP hD hS hl h
      rw [f_X6_wrong_b4] at h
      refine lv_iload_n hx hb dX6_wrong_4 rfl (lv_at hl 2 rfl) ?_
      refine lv_aload_n hx hb dX6_wrong_5 rfl (lv_at hl 0 rfl) ?_
      refine va_get (D := D) (ci := 6) (v := .ref qm_w) (C := RX6) (T := TX6) (N := 29) hx hb hu k_iX6 hown hK hP 0 rfl rfl 0 (by decide) (hu _ u_718) (fun _ h9 => h9) rfl dX6_wrong_6 ?_
      refine lv_iconst (v := (1 : Int32)) hx hb dX6_wrong_9 (by decide) ?_
      refine va_iald (D := D) hx hb hK hP 1 0 rfl rfl (inb_in (by decide)) dX6_wrong_10 ?_
      refine lv_icmp_ge (tgt := 43) hx hb dX6_wrong_11 (by decide) (fun cc_1 => ?_) (fun cc_1 => ?_)
      · have h := (if_pos cc_1).symm.trans h
        refine lv_iload_n hx hb dX6_wrong_43 rfl (lv_at hl 1 rfl) ?_
        have hq := Option.some.inj h
        clear h
        subst hq
        exact k_retI hx hb hr hlocks hP hD hS dX6_wrong_44
      · have h := (if_neg cc_1).symm.trans h
        refine lv_iload_n hx hb dX6_wrong_14 rfl (lv_at hl 1 rfl) ?_
        refine lv_aload_n hx hb dX6_wrong_15 rfl (lv_at hl 0 rfl) ?_
        refine lv_iload_n hx hb dX6_wrong_16 rfl (lv_at hl 2 rfl) ?_
        refine lv_iconst (v := (3 : Int32)) hx hb dX6_wrong_17 (by decide) ?_
        obtain ⟨r_2, hc_3, h⟩ := ob_bind h
        refine k_callVIr (qb := 0) [0, 1] (As := [.int x2, .int (3 : Int32)]) (rest := [.int x1]) ⟨hx, hb, hml, hown, hts⟩ hT hZ hA hP hD hS (c_X6_of l D cI cZ cN aK aV qm qm_w qm_past qm_images qm_text qm_may qm_least qm_isCarried qm_list qm_nodes qm_kept qm_keptLow qm_keptHigh qm_keptNodes qm_numbers qm_sums qm_commands qm_held m_w m_pastMany m_filled m_length m_listMany m_went m_cost m_cause m_looks m_isSent m_isOld m_keptMany m_commandMany x2 (3 : Int32) r_2 hc_3) ⟨callB_of 2 hts (k_good u_840) rfl rfl rfl (hu _ u_51) (hu _ u_837) (by decide +kernel) ⟨Nat.le_of_ble_eq_true rfl, Nat.le_of_ble_eq_true rfl⟩, hu _ u_839, hu _ u_23⟩ rfl rfl rfl (by decide) rfl hl.1 rfl (Nat.le_of_ble_eq_true rfl) dX6_wrong_18 (fun H locs hP hD hS => ?_)
        refine lv_aload_n hx hb dX6_wrong_21 rfl (lv_at hl 0 rfl) ?_
        refine lv_iload_n hx hb dX6_wrong_22 rfl (lv_at hl 2 rfl) ?_
        refine lv_iconst (v := (4 : Int32)) hx hb dX6_wrong_23 (by decide) ?_
        obtain ⟨r_4, hc_5, h⟩ := ob_bind h
        refine k_callVIr (qb := 0) [0, 1] (As := [.int x2, .int (4 : Int32)]) (rest := [.int r_2, .int x1]) ⟨hx, hb, hml, hown, hts⟩ hT hZ hA hP hD hS (c_X6_of l D cI cZ cN aK aV qm qm_w qm_past qm_images qm_text qm_may qm_least qm_isCarried qm_list qm_nodes qm_kept qm_keptLow qm_keptHigh qm_keptNodes qm_numbers qm_sums qm_commands qm_held m_w m_pastMany m_filled m_length m_listMany m_went m_cost m_cause m_looks m_isSent m_isOld m_keptMany m_commandMany x2 (4 : Int32) r_4 hc_5) ⟨callB_of 2 hts (k_good u_840) rfl rfl rfl (hu _ u_51) (hu _ u_837) (by decide +kernel) ⟨Nat.le_of_ble_eq_true rfl, Nat.le_of_ble_eq_true rfl⟩, hu _ u_839, hu _ u_23⟩ rfl rfl rfl (by decide) rfl hl.1 rfl (Nat.le_of_ble_eq_true rfl) dX6_wrong_24 (fun H locs hP hD hS => ?_)
        refine lv_icmp_eq (tgt := 34) hx hb dX6_wrong_27 (by decide) (fun cc_6 => ?_) (fun cc_6 => ?_)
        · have h := (if_pos cc_6).symm.trans h
          refine lv_iconst (v := (0 : Int32)) hx hb dX6_wrong_34 (by decide) ?_
          refine lv_iadd hx hb dX6_wrong_35 ?_
          refine lv_istore_n (lv' := [(1, .int (x1 + (0 : Int32))), (0, .ref qm), (2, .int x2)]) hx hb dX6_wrong_36 rfl hl (by decide) rfl (fun ls hl => ?_)
          refine lv_iinc (v := (x2 + (1 : Int32))) (lv' := [(2, .int (x2 + (1 : Int32))), (1, .int (x1 + (0 : Int32))), (0, .ref qm)]) hx hb dX6_wrong_37 hl (k := 2) rfl rfl (by decide) rfl (fun ls hl => ?_)
          refine lv_goto (tgt := 4) hx hb dX6_wrong_40 (by decide) ?_
          exact ih4 (x1 + (0 : Int32)) (x2 + (1 : Int32)) m_w _ _ _ hP hD hS (lv_sub hl [2, 1, 0] rfl) h
        · have h := (if_neg cc_6).symm.trans h
          refine lv_iconst (v := (1 : Int32)) hx hb dX6_wrong_30 (by decide) ?_
          refine lv_goto (tgt := 35) hx hb dX6_wrong_31 (by decide) ?_
          refine lv_iadd hx hb dX6_wrong_35 ?_
          refine lv_istore_n (lv' := [(1, .int (x1 + (1 : Int32))), (0, .ref qm), (2, .int x2)]) hx hb dX6_wrong_36 rfl hl (by decide) rfl (fun ls hl => ?_)
          refine lv_iinc (v := (x2 + (1 : Int32))) (lv' := [(2, .int (x2 + (1 : Int32))), (1, .int (x1 + (1 : Int32))), (0, .ref qm)]) hx hb dX6_wrong_37 hl (k := 2) rfl rfl (by decide) rfl (fun ls hl => ?_)
          refine lv_goto (tgt := 4) hx hb dX6_wrong_40 (by decide) ?_
          exact ih4 (x1 + (1 : Int32)) (x2 + (1 : Int32)) m_w _ _ _ hP hD hS (lv_sub hl [2, 1, 0] rfl) h
  refine lv_iconst (v := (0 : Int32)) hx hb dX6_wrong_0 (by decide) ?_
  refine lv_istore_n (lv' := [(1, .int (0 : Int32)), (0, .ref qm)]) hx hb dX6_wrong_1 rfl hl (by decide) rfl (fun ls hl => ?_)
  refine lv_iconst (v := (0 : Int32)) hx hb dX6_wrong_2 (by decide) ?_
  refine lv_istore_n (lv' := [(2, .int (0 : Int32)), (1, .int (0 : Int32)), (0, .ref qm)]) hx hb dX6_wrong_3 rfl hl (by decide) rfl (fun ls hl => ?_)
  exact w4 1000 (0 : Int32) (0 : Int32) m_w _ _ _ hP hD hS (lv_sub hl [2, 1, 0] rfl) h
def f_X6_told (p1 : Int32) (m_w : (Nat → Int32)) (m_pastMany : Int32) (m_length : Int32) (m_may : (Nat → Int32)) (m_least : (Nat → Int32)) : Option (Int32 × (Nat → Int32) × (Nat → Int32)) :=
  if p1 = (0 : Int32) then
    some ((m_w (Int32.toNatClampNeg (0 : Int32))), m_may, m_least)
  else
  if p1 = (1 : Int32) then
    some ((m_w (Int32.toNatClampNeg (1 : Int32))), m_may, m_least)
  else
  if p1 = (2 : Int32) then
    (f_X6_count (3 : Int32) (1 : Int32) m_w).bind fun r_1 =>
    some (r_1, m_may, m_least)
  else
  if p1 = (3 : Int32) then
    (f_X6_count (4 : Int32) (1 : Int32) m_w).bind fun r_3 =>
    some (r_3, m_may, m_least)
  else
  if p1 = (4 : Int32) then
    (f_X6_wrong m_w).bind fun r_5 =>
    some (r_5, m_may, m_least)
  else
  if p1 = (5 : Int32) then
    some ((m_w (Int32.toNatClampNeg (2 : Int32))), m_may, m_least)
  else
  if p1 = (6 : Int32) then
    some (m_length, m_may, m_least)
  else
  if p1 = (7 : Int32) then
    some (m_pastMany, m_may, m_least)
  else
  if p1 = (8 : Int32) then
    (f_X6_parts m_w m_may m_least).bind fun ⟨r_7, o_8, o_9⟩ =>
    some (r_7, o_8, o_9)
  else
  some ((-1 : Int32), m_may, m_least)
set_option maxHeartbeats 4000000 in
set_option maxRecDepth 100000 in
theorem c_X6_told (l : Launch) (D : va_G) (cI cZ cN : ClassId) (aK aV : Nat → Nat)  (qm : Nat) (qm_w : Nat) (qm_past : Nat) (qm_images : Nat) (qm_text : Nat) (qm_may : Nat) (qm_least : Nat) (qm_isCarried : Nat) (qm_list : Nat) (qm_nodes : Nat) (qm_kept : Nat) (qm_keptLow : Nat) (qm_keptHigh : Nat) (qm_keptNodes : Nat) (qm_numbers : Nat) (qm_sums : Nat) (qm_commands : Nat) (qm_held : Nat) (m_w : (Nat → Int32)) (m_pastMany : Int32) (m_filled : Int32) (m_length : Int32) (m_may : (Nat → Int32)) (m_least : (Nat → Int32)) (m_listMany : Int32) (m_went : Int32) (m_cost : Int32) (m_cause : Int32) (m_looks : Int32) (m_isSent : Int32) (m_isOld : Int32) (m_keptMany : Int32) (m_commandMany : Int32) (p1 : Int32) (r : Int32) (z_m_may : (Nat → Int32)) (z_m_least : (Nat → Int32)) (h : f_X6_told p1 m_w m_pastMany m_length m_may m_least = some (r, z_m_may, z_m_least)) : CtI l D cI cZ cN aK aV yX6_told (k_W yX6_told cX6_told 2 (some .int)) { frames := 4, cells := 0, slots := 0, locals := 95 } [.ref qm, .int p1] [(qm, .inr (6, [.ref qm_w, .ref qm_past, .int m_pastMany, .ref qm_images, .int m_filled, .ref qm_text, .int m_length, .ref qm_may, .ref qm_least, .ref qm_isCarried, .ref qm_list, .ref qm_nodes, .int m_listMany, .int m_went, .int m_cost, .int m_cause, .int m_looks, .int m_isSent, .int m_isOld, .ref qm_kept, .ref qm_keptLow, .ref qm_keptHigh, .int m_keptMany, .ref qm_keptNodes, .ref qm_numbers, .ref qm_sums, .ref qm_commands, .int m_commandMany, .ref qm_held])), (qm_w, .inl (cI, 93, .inl m_w)), (qm_may, .inl (cZ, 18, .inl m_may)), (qm_least, .inl (cI, 9, .inl m_least))] r [(qm, .inr (6, [.ref qm_w, .ref qm_past, .int m_pastMany, .ref qm_images, .int m_filled, .ref qm_text, .int m_length, .ref qm_may, .ref qm_least, .ref qm_isCarried, .ref qm_list, .ref qm_nodes, .int m_listMany, .int m_went, .int m_cost, .int m_cause, .int m_looks, .int m_isSent, .int m_isOld, .ref qm_kept, .ref qm_keptLow, .ref qm_keptHigh, .int m_keptMany, .ref qm_keptNodes, .ref qm_numbers, .ref qm_sums, .ref qm_commands, .int m_commandMany, .ref qm_held])), (qm_w, .inl (cI, 93, .inl m_w)), (qm_may, .inl (cZ, 18, .inl z_m_may)), (qm_least, .inl (cI, 9, .inl z_m_least))] := by
  refine k_startI (by decide) (Nat.le_of_ble_eq_true rfl) ?_
  intro p e s m below meth c A ls hx hb hr hml hown hts hlocks hT hZ hA hP hD hS hl
  have hK := hT.1
  have hu : ∀ w ∈ k_U, w.before ([.ref qm, .int p1] : List Value).toArray s = true := fun w h => hts w (List.mem_cons_of_mem _ h)
  have hown : s.vm.findClass RX6 = some m.cls := hown
  have hl : lv_has ls 2 [(0, .ref qm), (1, .int p1)] := hl
  unfold f_X6_told at h
  refine lv_iload_n hx hb dX6_told_0 rfl (lv_at hl 1 rfl) ?_
  by_cases sw_11 : p1 = (0 : Int32)
  · have h := (if_pos sw_11).symm.trans h
    refine lv_tableIn (tgt := 52) hx hb dX6_told_1 (by rw [sw_11]; decide) (by rw [sw_11]; decide) (by rw [sw_11]; rfl) (by decide) ?_
    refine lv_aload_n hx hb dX6_told_52 rfl (lv_at hl 0 rfl) ?_
    refine va_get (D := D) (ci := 6) (v := .ref qm_w) (C := RX6) (T := TX6) (N := 29) hx hb hu k_iX6 hown hK hP 0 rfl rfl 0 (by decide) (hu _ u_718) (fun _ h9 => h9) rfl dX6_told_53 ?_
    refine lv_iconst (v := (0 : Int32)) hx hb dX6_told_56 (by decide) ?_
    refine va_iald (D := D) hx hb hK hP 1 0 rfl rfl (inb_in (by decide)) dX6_told_57 ?_
    have hq := Option.some.inj h
    clear h
    obtain ⟨e0, hq0⟩ := Prod.mk.inj hq
    clear hq
    obtain ⟨e1, hq1⟩ := Prod.mk.inj hq0
    clear hq0
    subst e0
    subst e1
    subst hq1
    exact k_retI hx hb hr hlocks hP hD hS dX6_told_58
  have h := (if_neg sw_11).symm.trans h
  by_cases sw_12 : p1 = (1 : Int32)
  · have h := (if_pos sw_12).symm.trans h
    refine lv_tableIn (tgt := 59) hx hb dX6_told_1 (by rw [sw_12]; decide) (by rw [sw_12]; decide) (by rw [sw_12]; rfl) (by decide) ?_
    refine lv_aload_n hx hb dX6_told_59 rfl (lv_at hl 0 rfl) ?_
    refine va_get (D := D) (ci := 6) (v := .ref qm_w) (C := RX6) (T := TX6) (N := 29) hx hb hu k_iX6 hown hK hP 0 rfl rfl 0 (by decide) (hu _ u_718) (fun _ h9 => h9) rfl dX6_told_60 ?_
    refine lv_iconst (v := (1 : Int32)) hx hb dX6_told_63 (by decide) ?_
    refine va_iald (D := D) hx hb hK hP 1 0 rfl rfl (inb_in (by decide)) dX6_told_64 ?_
    have hq := Option.some.inj h
    clear h
    obtain ⟨e0, hq0⟩ := Prod.mk.inj hq
    clear hq
    obtain ⟨e1, hq1⟩ := Prod.mk.inj hq0
    clear hq0
    subst e0
    subst e1
    subst hq1
    exact k_retI hx hb hr hlocks hP hD hS dX6_told_65
  have h := (if_neg sw_12).symm.trans h
  by_cases sw_13 : p1 = (2 : Int32)
  · have h := (if_pos sw_13).symm.trans h
    refine lv_tableIn (tgt := 66) hx hb dX6_told_1 (by rw [sw_13]; decide) (by rw [sw_13]; decide) (by rw [sw_13]; rfl) (by decide) ?_
    refine lv_aload_n hx hb dX6_told_66 rfl (lv_at hl 0 rfl) ?_
    refine lv_iconst (v := (3 : Int32)) hx hb dX6_told_67 (by decide) ?_
    refine lv_iconst (v := (1 : Int32)) hx hb dX6_told_68 (by decide) ?_
    obtain ⟨r_1, hc_2, h⟩ := ob_bind h
    refine k_callVIr (qb := 0) [0, 1] (As := [.int (3 : Int32), .int (1 : Int32)]) (rest := []) ⟨hx, hb, hml, hown, hts⟩ hT hZ hA hP hD hS (c_X6_count l D cI cZ cN aK aV qm qm_w qm_past qm_images qm_text qm_may qm_least qm_isCarried qm_list qm_nodes qm_kept qm_keptLow qm_keptHigh qm_keptNodes qm_numbers qm_sums qm_commands qm_held m_w m_pastMany m_filled m_length m_listMany m_went m_cost m_cause m_looks m_isSent m_isOld m_keptMany m_commandMany (3 : Int32) (1 : Int32) r_1 hc_2) ⟨callB_of 2 hts (k_good u_888) rfl rfl rfl (hu _ u_51) (hu _ u_885) (by decide +kernel) ⟨Nat.le_of_ble_eq_true rfl, Nat.le_of_ble_eq_true rfl⟩, hu _ u_887, hu _ u_27⟩ rfl rfl rfl (by decide) rfl hl.1 rfl (Nat.le_of_ble_eq_true rfl) dX6_told_69 (fun H locs hP hD hS => ?_)
    have hq := Option.some.inj h
    clear h
    obtain ⟨e0, hq0⟩ := Prod.mk.inj hq
    clear hq
    obtain ⟨e1, hq1⟩ := Prod.mk.inj hq0
    clear hq0
    subst e0
    subst e1
    subst hq1
    exact k_retI hx hb hr hlocks hP hD hS dX6_told_72
  have h := (if_neg sw_13).symm.trans h
  by_cases sw_14 : p1 = (3 : Int32)
  · have h := (if_pos sw_14).symm.trans h
    refine lv_tableIn (tgt := 73) hx hb dX6_told_1 (by rw [sw_14]; decide) (by rw [sw_14]; decide) (by rw [sw_14]; rfl) (by decide) ?_
    refine lv_aload_n hx hb dX6_told_73 rfl (lv_at hl 0 rfl) ?_
    refine lv_iconst (v := (4 : Int32)) hx hb dX6_told_74 (by decide) ?_
    refine lv_iconst (v := (1 : Int32)) hx hb dX6_told_75 (by decide) ?_
    obtain ⟨r_3, hc_4, h⟩ := ob_bind h
    refine k_callVIr (qb := 0) [0, 1] (As := [.int (4 : Int32), .int (1 : Int32)]) (rest := []) ⟨hx, hb, hml, hown, hts⟩ hT hZ hA hP hD hS (c_X6_count l D cI cZ cN aK aV qm qm_w qm_past qm_images qm_text qm_may qm_least qm_isCarried qm_list qm_nodes qm_kept qm_keptLow qm_keptHigh qm_keptNodes qm_numbers qm_sums qm_commands qm_held m_w m_pastMany m_filled m_length m_listMany m_went m_cost m_cause m_looks m_isSent m_isOld m_keptMany m_commandMany (4 : Int32) (1 : Int32) r_3 hc_4) ⟨callB_of 2 hts (k_good u_888) rfl rfl rfl (hu _ u_51) (hu _ u_885) (by decide +kernel) ⟨Nat.le_of_ble_eq_true rfl, Nat.le_of_ble_eq_true rfl⟩, hu _ u_887, hu _ u_27⟩ rfl rfl rfl (by decide) rfl hl.1 rfl (Nat.le_of_ble_eq_true rfl) dX6_told_76 (fun H locs hP hD hS => ?_)
    have hq := Option.some.inj h
    clear h
    obtain ⟨e0, hq0⟩ := Prod.mk.inj hq
    clear hq
    obtain ⟨e1, hq1⟩ := Prod.mk.inj hq0
    clear hq0
    subst e0
    subst e1
    subst hq1
    exact k_retI hx hb hr hlocks hP hD hS dX6_told_79
  have h := (if_neg sw_14).symm.trans h
  by_cases sw_15 : p1 = (4 : Int32)
  · have h := (if_pos sw_15).symm.trans h
    refine lv_tableIn (tgt := 80) hx hb dX6_told_1 (by rw [sw_15]; decide) (by rw [sw_15]; decide) (by rw [sw_15]; rfl) (by decide) ?_
    refine lv_aload_n hx hb dX6_told_80 rfl (lv_at hl 0 rfl) ?_
    obtain ⟨r_5, hc_6, h⟩ := ob_bind h
    refine k_callVIr (qb := 0) [0, 1] (As := []) (rest := []) ⟨hx, hb, hml, hown, hts⟩ hT hZ hA hP hD hS (c_X6_wrong l D cI cZ cN aK aV qm qm_w qm_past qm_images qm_text qm_may qm_least qm_isCarried qm_list qm_nodes qm_kept qm_keptLow qm_keptHigh qm_keptNodes qm_numbers qm_sums qm_commands qm_held m_w m_pastMany m_filled m_length m_listMany m_went m_cost m_cause m_looks m_isSent m_isOld m_keptMany m_commandMany r_5 hc_6) ⟨callB_of 0 hts (k_good u_892) rfl rfl rfl (hu _ u_51) (hu _ u_889) (by decide +kernel) ⟨Nat.le_of_ble_eq_true rfl, Nat.le_of_ble_eq_true rfl⟩, hu _ u_891, hu _ u_28⟩ rfl rfl rfl (by decide) rfl hl.1 rfl (Nat.le_of_ble_eq_true rfl) dX6_told_81 (fun H locs hP hD hS => ?_)
    have hq := Option.some.inj h
    clear h
    obtain ⟨e0, hq0⟩ := Prod.mk.inj hq
    clear hq
    obtain ⟨e1, hq1⟩ := Prod.mk.inj hq0
    clear hq0
    subst e0
    subst e1
    subst hq1
    exact k_retI hx hb hr hlocks hP hD hS dX6_told_84
  have h := (if_neg sw_15).symm.trans h
  by_cases sw_16 : p1 = (5 : Int32)
  · have h := (if_pos sw_16).symm.trans h
    refine lv_tableIn (tgt := 85) hx hb dX6_told_1 (by rw [sw_16]; decide) (by rw [sw_16]; decide) (by rw [sw_16]; rfl) (by decide) ?_
    refine lv_aload_n hx hb dX6_told_85 rfl (lv_at hl 0 rfl) ?_
    refine va_get (D := D) (ci := 6) (v := .ref qm_w) (C := RX6) (T := TX6) (N := 29) hx hb hu k_iX6 hown hK hP 0 rfl rfl 0 (by decide) (hu _ u_718) (fun _ h9 => h9) rfl dX6_told_86 ?_
    refine lv_iconst (v := (2 : Int32)) hx hb dX6_told_89 (by decide) ?_
    refine va_iald (D := D) hx hb hK hP 1 0 rfl rfl (inb_in (by decide)) dX6_told_90 ?_
    have hq := Option.some.inj h
    clear h
    obtain ⟨e0, hq0⟩ := Prod.mk.inj hq
    clear hq
    obtain ⟨e1, hq1⟩ := Prod.mk.inj hq0
    clear hq0
    subst e0
    subst e1
    subst hq1
    exact k_retI hx hb hr hlocks hP hD hS dX6_told_91
  have h := (if_neg sw_16).symm.trans h
  by_cases sw_17 : p1 = (6 : Int32)
  · have h := (if_pos sw_17).symm.trans h
    refine lv_tableIn (tgt := 92) hx hb dX6_told_1 (by rw [sw_17]; decide) (by rw [sw_17]; decide) (by rw [sw_17]; rfl) (by decide) ?_
    refine lv_aload_n hx hb dX6_told_92 rfl (lv_at hl 0 rfl) ?_
    refine va_get (D := D) (ci := 6) (v := .int m_length) (C := RX6) (T := TX6) (N := 29) hx hb hu k_iX6 hown hK hP 0 rfl rfl 6 (by decide) (hu _ u_724) (fun _ h9 => h9) rfl dX6_told_93 ?_
    have hq := Option.some.inj h
    clear h
    obtain ⟨e0, hq0⟩ := Prod.mk.inj hq
    clear hq
    obtain ⟨e1, hq1⟩ := Prod.mk.inj hq0
    clear hq0
    subst e0
    subst e1
    subst hq1
    exact k_retI hx hb hr hlocks hP hD hS dX6_told_96
  have h := (if_neg sw_17).symm.trans h
  by_cases sw_18 : p1 = (7 : Int32)
  · have h := (if_pos sw_18).symm.trans h
    refine lv_tableIn (tgt := 97) hx hb dX6_told_1 (by rw [sw_18]; decide) (by rw [sw_18]; decide) (by rw [sw_18]; rfl) (by decide) ?_
    refine lv_aload_n hx hb dX6_told_97 rfl (lv_at hl 0 rfl) ?_
    refine va_get (D := D) (ci := 6) (v := .int m_pastMany) (C := RX6) (T := TX6) (N := 29) hx hb hu k_iX6 hown hK hP 0 rfl rfl 2 (by decide) (hu _ u_720) (fun _ h9 => h9) rfl dX6_told_98 ?_
    have hq := Option.some.inj h
    clear h
    obtain ⟨e0, hq0⟩ := Prod.mk.inj hq
    clear hq
    obtain ⟨e1, hq1⟩ := Prod.mk.inj hq0
    clear hq0
    subst e0
    subst e1
    subst hq1
    exact k_retI hx hb hr hlocks hP hD hS dX6_told_101
  have h := (if_neg sw_18).symm.trans h
  by_cases sw_19 : p1 = (8 : Int32)
  · have h := (if_pos sw_19).symm.trans h
    refine lv_tableIn (tgt := 102) hx hb dX6_told_1 (by rw [sw_19]; decide) (by rw [sw_19]; decide) (by rw [sw_19]; rfl) (by decide) ?_
    refine lv_aload_n hx hb dX6_told_102 rfl (lv_at hl 0 rfl) ?_
    obtain ⟨⟨r_7, o_8, o_9⟩, hc_10, h⟩ := ob_bind h
    dsimp only at h
    refine k_callVI (qb := 0) [0, 1, 2, 3] [2, 3] [2, 3] [(qm_may, .inl (cZ, 18, .inl o_8)), (qm_least, .inl (cI, 9, .inl o_9))] (As := []) (rest := []) ⟨hx, hb, hml, hown, hts⟩ hT hZ hA hP hD hS (c_X6_parts l D cI cZ cN aK aV qm qm_w qm_past qm_images qm_text qm_may qm_least qm_isCarried qm_list qm_nodes qm_kept qm_keptLow qm_keptHigh qm_keptNodes qm_numbers qm_sums qm_commands qm_held m_w m_pastMany m_filled m_length m_may m_least m_listMany m_went m_cost m_cause m_looks m_isSent m_isOld m_keptMany m_commandMany r_7 o_8 o_9 hc_10) ⟨callB_of 0 hts (k_good u_896) rfl rfl rfl (hu _ u_51) (hu _ u_893) (by decide +kernel) ⟨Nat.le_of_ble_eq_true rfl, Nat.le_of_ble_eq_true rfl⟩, hu _ u_895, hu _ u_29⟩ rfl rfl rfl (by decide) (by decide) (by decide) rfl rfl rfl rfl hl.1 rfl (Nat.le_of_ble_eq_true rfl) dX6_told_103 (fun H locs hP hD hS => ?_)
    have hP : va_P D vwCl [(qm, .inr (6, [.ref qm_w, .ref qm_past, .int m_pastMany, .ref qm_images, .int m_filled, .ref qm_text, .int m_length, .ref qm_may, .ref qm_least, .ref qm_isCarried, .ref qm_list, .ref qm_nodes, .int m_listMany, .int m_went, .int m_cost, .int m_cause, .int m_looks, .int m_isSent, .int m_isOld, .ref qm_kept, .ref qm_keptLow, .ref qm_keptHigh, .int m_keptMany, .ref qm_keptNodes, .ref qm_numbers, .ref qm_sums, .ref qm_commands, .int m_commandMany, .ref qm_held])), (qm_w, .inl (cI, 93, .inl m_w)), (qm_may, .inl (cZ, 18, .inl o_8)), (qm_least, .inl (cI, 9, .inl o_9))] H := hP
    have hD : va_D A [(qm, .inr (6, [.ref qm_w, .ref qm_past, .int m_pastMany, .ref qm_images, .int m_filled, .ref qm_text, .int m_length, .ref qm_may, .ref qm_least, .ref qm_isCarried, .ref qm_list, .ref qm_nodes, .int m_listMany, .int m_went, .int m_cost, .int m_cause, .int m_looks, .int m_isSent, .int m_isOld, .ref qm_kept, .ref qm_keptLow, .ref qm_keptHigh, .int m_keptMany, .ref qm_keptNodes, .ref qm_numbers, .ref qm_sums, .ref qm_commands, .int m_commandMany, .ref qm_held])), (qm_w, .inl (cI, 93, .inl m_w)), (qm_may, .inl (cZ, 18, .inl o_8)), (qm_least, .inl (cI, 9, .inl o_9))] := hD
    have hq := Option.some.inj h
    clear h
    obtain ⟨e0, hq0⟩ := Prod.mk.inj hq
    clear hq
    obtain ⟨e1, hq1⟩ := Prod.mk.inj hq0
    clear hq0
    subst e0
    subst e1
    subst hq1
    exact k_retI hx hb hr hlocks hP hD hS dX6_told_106
  have h := (if_neg sw_19).symm.trans h
  refine lv_tableOut (tgt := 107) hx hb dX6_told_1 (k_swo 0 8 (by decide) (by decide) (by intro j h1 h2; rcases (show j = 0 ∨ j = 1 ∨ j = 2 ∨ j = 3 ∨ j = 4 ∨ j = 5 ∨ j = 6 ∨ j = 7 ∨ j = 8 by omega) with rfl | rfl | rfl | rfl | rfl | rfl | rfl | rfl | rfl <;> assumption)) (by decide) ?_
  refine lv_iconst (v := (-1 : Int32)) hx hb dX6_told_107 (by decide) ?_
  have hq := Option.some.inj h
  clear h
  obtain ⟨e0, hq0⟩ := Prod.mk.inj hq
  clear hq
  obtain ⟨e1, hq1⟩ := Prod.mk.inj hq0
  clear hq0
  subst e0
  subst e1
  subst hq1
  exact k_retI hx hb hr hlocks hP hD hS dX6_told_108
def f_X6_link (p1 : Int32) (p2 : Int32) (m_w : (Nat → Int32)) (m_may : (Nat → Int32)) (m_least : (Nat → Int32)) : Option (Int32 × (Nat → Int32) × (Nat → Int32)) :=
  (f_X6_isLink p1 m_w).bind fun r_1 =>
  if r_1 = (0 : Int32) then
    some ((-1 : Int32), m_may, m_least)
  else
    if (f_X6_isIn p2 (0 : Int32) (5 : Int32)) = (0 : Int32) then
      some ((-1 : Int32), m_may, m_least)
    else
      if (5 : Int32) ≤ p2 then
        (f_X6_pairsWith (-9 : Int32) m_w m_may m_least).bind fun ⟨r_6, o_7, o_8⟩ =>
        (f_X6_pairsWith p1 m_w o_7 o_8).bind fun ⟨r_10, o_11, o_12⟩ =>
        some ((r_6 - r_10), o_11, o_12)
      else
        (f_X6_of p1 p2 m_w).bind fun r_14 =>
        some (r_14, m_may, m_least)
set_option maxHeartbeats 4000000 in
set_option maxRecDepth 100000 in
theorem c_X6_link (l : Launch) (D : va_G) (cI cZ cN : ClassId) (aK aV : Nat → Nat)  (qm : Nat) (qm_w : Nat) (qm_past : Nat) (qm_images : Nat) (qm_text : Nat) (qm_may : Nat) (qm_least : Nat) (qm_isCarried : Nat) (qm_list : Nat) (qm_nodes : Nat) (qm_kept : Nat) (qm_keptLow : Nat) (qm_keptHigh : Nat) (qm_keptNodes : Nat) (qm_numbers : Nat) (qm_sums : Nat) (qm_commands : Nat) (qm_held : Nat) (m_w : (Nat → Int32)) (m_pastMany : Int32) (m_filled : Int32) (m_length : Int32) (m_may : (Nat → Int32)) (m_least : (Nat → Int32)) (m_listMany : Int32) (m_went : Int32) (m_cost : Int32) (m_cause : Int32) (m_looks : Int32) (m_isSent : Int32) (m_isOld : Int32) (m_keptMany : Int32) (m_commandMany : Int32) (p1 p2 : Int32) (r : Int32) (z_m_may : (Nat → Int32)) (z_m_least : (Nat → Int32)) (h : f_X6_link p1 p2 m_w m_may m_least = some (r, z_m_may, z_m_least)) : CtI l D cI cZ cN aK aV yX6_link (k_W yX6_link cX6_link 3 (some .int)) { frames := 4, cells := 0, slots := 0, locals := 95 } [.ref qm, .int p1, .int p2] [(qm, .inr (6, [.ref qm_w, .ref qm_past, .int m_pastMany, .ref qm_images, .int m_filled, .ref qm_text, .int m_length, .ref qm_may, .ref qm_least, .ref qm_isCarried, .ref qm_list, .ref qm_nodes, .int m_listMany, .int m_went, .int m_cost, .int m_cause, .int m_looks, .int m_isSent, .int m_isOld, .ref qm_kept, .ref qm_keptLow, .ref qm_keptHigh, .int m_keptMany, .ref qm_keptNodes, .ref qm_numbers, .ref qm_sums, .ref qm_commands, .int m_commandMany, .ref qm_held])), (qm_w, .inl (cI, 93, .inl m_w)), (qm_may, .inl (cZ, 18, .inl m_may)), (qm_least, .inl (cI, 9, .inl m_least))] r [(qm, .inr (6, [.ref qm_w, .ref qm_past, .int m_pastMany, .ref qm_images, .int m_filled, .ref qm_text, .int m_length, .ref qm_may, .ref qm_least, .ref qm_isCarried, .ref qm_list, .ref qm_nodes, .int m_listMany, .int m_went, .int m_cost, .int m_cause, .int m_looks, .int m_isSent, .int m_isOld, .ref qm_kept, .ref qm_keptLow, .ref qm_keptHigh, .int m_keptMany, .ref qm_keptNodes, .ref qm_numbers, .ref qm_sums, .ref qm_commands, .int m_commandMany, .ref qm_held])), (qm_w, .inl (cI, 93, .inl m_w)), (qm_may, .inl (cZ, 18, .inl z_m_may)), (qm_least, .inl (cI, 9, .inl z_m_least))] := by
  refine k_startI (by decide) (Nat.le_of_ble_eq_true rfl) ?_
  intro p e s m below meth c A ls hx hb hr hml hown hts hlocks hT hZ hA hP hD hS hl
  have hK := hT.1
  have hu : ∀ w ∈ k_U, w.before ([.ref qm, .int p1, .int p2] : List Value).toArray s = true := fun w h => hts w (List.mem_cons_of_mem _ h)
  have hown : s.vm.findClass RX6 = some m.cls := hown
  have hl : lv_has ls 3 [(0, .ref qm), (1, .int p1), (2, .int p2)] := hl
  unfold f_X6_link at h
  refine lv_aload_n hx hb dX6_link_0 rfl (lv_at hl 0 rfl) ?_
  refine lv_iload_n hx hb dX6_link_1 rfl (lv_at hl 1 rfl) ?_
  obtain ⟨r_1, hc_2, h⟩ := ob_bind h
  refine k_callVIr (qb := 0) [0, 1] (As := [.int p1]) (rest := []) ⟨hx, hb, hml, hown, hts⟩ hT hZ hA hP hD hS (c_X6_isLink l D cI cZ cN aK aV qm qm_w qm_past qm_images qm_text qm_may qm_least qm_isCarried qm_list qm_nodes qm_kept qm_keptLow qm_keptHigh qm_keptNodes qm_numbers qm_sums qm_commands qm_held m_w m_pastMany m_filled m_length m_listMany m_went m_cost m_cause m_looks m_isSent m_isOld m_keptMany m_commandMany p1 r_1 hc_2) ⟨callB_of 1 hts (k_good u_852) rfl rfl rfl (hu _ u_51) (hu _ u_849) (by decide +kernel) ⟨Nat.le_of_ble_eq_true rfl, Nat.le_of_ble_eq_true rfl⟩, hu _ u_851, hu _ u_25⟩ rfl rfl rfl (by decide) rfl hl.1 rfl (Nat.le_of_ble_eq_true rfl) dX6_link_2 (fun H locs hP hD hS => ?_)
  refine lv_if_eq (tgt := 17) hx hb dX6_link_5 (by decide) (fun cc_3 => ?_) (fun cc_3 => ?_)
  · have h := (if_pos cc_3).symm.trans h
    refine lv_iconst (v := (-1 : Int32)) hx hb dX6_link_17 (by decide) ?_
    have hq := Option.some.inj h
    clear h
    obtain ⟨e0, hq0⟩ := Prod.mk.inj hq
    clear hq
    obtain ⟨e1, hq1⟩ := Prod.mk.inj hq0
    clear hq0
    subst e0
    subst e1
    subst hq1
    exact k_retI hx hb hr hlocks hP hD hS dX6_link_18
  · have h := (if_neg cc_3).symm.trans h
    refine lv_iload_n hx hb dX6_link_8 rfl (lv_at hl 2 rfl) ?_
    refine lv_iconst (v := (0 : Int32)) hx hb dX6_link_9 (by decide) ?_
    refine lv_iconst (v := (5 : Int32)) hx hb dX6_link_10 (by decide) ?_
    refine k_call0 (As := [.int p2, .int (0 : Int32), .int (5 : Int32)]) (rest := []) ⟨hx, hb, hml, hown, hts⟩ hT hZ hA hP hD hS (c_X6_isIn l D cI cZ cN aK aV p2 (0 : Int32) (5 : Int32) _ rfl) ⟨callB_of 3 hts (k_good u_812) rfl rfl rfl (hu _ u_51) (hu _ u_810) (by decide +kernel) ⟨Nat.le_of_ble_eq_true rfl, Nat.le_of_ble_eq_true rfl⟩, hu _ u_811⟩ rfl hl.1 rfl (Nat.le_of_ble_eq_true rfl) dX6_link_11 (fun H locs hP hD hS => ?_)
    refine lv_if_ne (tgt := 19) hx hb dX6_link_14 (by decide) (fun cc_4 => ?_) (fun cc_4 => ?_)
    · have h := (if_neg cc_4).symm.trans h
      refine lv_iload_n hx hb dX6_link_19 rfl (lv_at hl 2 rfl) ?_
      refine lv_iconst (v := (5 : Int32)) hx hb dX6_link_20 (by decide) ?_
      refine lv_icmp_ge (tgt := 33) hx hb dX6_link_21 (by decide) (fun cc_5 => ?_) (fun cc_5 => ?_)
      · have h := (if_pos cc_5).symm.trans h
        refine lv_aload_n hx hb dX6_link_33 rfl (lv_at hl 0 rfl) ?_
        refine lv_bipush (v := (-9 : Int32)) hx hb dX6_link_34 (by decide) ?_
        obtain ⟨⟨r_6, o_7, o_8⟩, hc_9, h⟩ := ob_bind h
        dsimp only at h
        refine k_callVI (qb := 0) [0, 1, 2, 3] [2, 3] [2, 3] [(qm_may, .inl (cZ, 18, .inl o_7)), (qm_least, .inl (cI, 9, .inl o_8))] (As := [.int (-9 : Int32)]) (rest := []) ⟨hx, hb, hml, hown, hts⟩ hT hZ hA hP hD hS (c_X6_pairsWith l D cI cZ cN aK aV qm qm_w qm_past qm_images qm_text qm_may qm_least qm_isCarried qm_list qm_nodes qm_kept qm_keptLow qm_keptHigh qm_keptNodes qm_numbers qm_sums qm_commands qm_held m_w m_pastMany m_filled m_length m_may m_least m_listMany m_went m_cost m_cause m_looks m_isSent m_isOld m_keptMany m_commandMany (-9 : Int32) r_6 o_7 o_8 hc_9) ⟨callB_of 1 hts (k_good u_913) rfl rfl rfl (hu _ u_51) (hu _ u_910) (by decide +kernel) ⟨Nat.le_of_ble_eq_true rfl, Nat.le_of_ble_eq_true rfl⟩, hu _ u_912, hu _ u_32⟩ rfl rfl rfl (by decide) (by decide) (by decide) rfl rfl rfl rfl hl.1 rfl (Nat.le_of_ble_eq_true rfl) dX6_link_36 (fun H locs hP hD hS => ?_)
        have hP : va_P D vwCl [(qm, .inr (6, [.ref qm_w, .ref qm_past, .int m_pastMany, .ref qm_images, .int m_filled, .ref qm_text, .int m_length, .ref qm_may, .ref qm_least, .ref qm_isCarried, .ref qm_list, .ref qm_nodes, .int m_listMany, .int m_went, .int m_cost, .int m_cause, .int m_looks, .int m_isSent, .int m_isOld, .ref qm_kept, .ref qm_keptLow, .ref qm_keptHigh, .int m_keptMany, .ref qm_keptNodes, .ref qm_numbers, .ref qm_sums, .ref qm_commands, .int m_commandMany, .ref qm_held])), (qm_w, .inl (cI, 93, .inl m_w)), (qm_may, .inl (cZ, 18, .inl o_7)), (qm_least, .inl (cI, 9, .inl o_8))] H := hP
        have hD : va_D A [(qm, .inr (6, [.ref qm_w, .ref qm_past, .int m_pastMany, .ref qm_images, .int m_filled, .ref qm_text, .int m_length, .ref qm_may, .ref qm_least, .ref qm_isCarried, .ref qm_list, .ref qm_nodes, .int m_listMany, .int m_went, .int m_cost, .int m_cause, .int m_looks, .int m_isSent, .int m_isOld, .ref qm_kept, .ref qm_keptLow, .ref qm_keptHigh, .int m_keptMany, .ref qm_keptNodes, .ref qm_numbers, .ref qm_sums, .ref qm_commands, .int m_commandMany, .ref qm_held])), (qm_w, .inl (cI, 93, .inl m_w)), (qm_may, .inl (cZ, 18, .inl o_7)), (qm_least, .inl (cI, 9, .inl o_8))] := hD
        refine lv_aload_n hx hb dX6_link_39 rfl (lv_at hl 0 rfl) ?_
        refine lv_iload_n hx hb dX6_link_40 rfl (lv_at hl 1 rfl) ?_
        obtain ⟨⟨r_10, o_11, o_12⟩, hc_13, h⟩ := ob_bind h
        dsimp only at h
        refine k_callVI (qb := 0) [0, 1, 2, 3] [2, 3] [2, 3] [(qm_may, .inl (cZ, 18, .inl o_11)), (qm_least, .inl (cI, 9, .inl o_12))] (As := [.int p1]) (rest := [.int r_6]) ⟨hx, hb, hml, hown, hts⟩ hT hZ hA hP hD hS (c_X6_pairsWith l D cI cZ cN aK aV qm qm_w qm_past qm_images qm_text qm_may qm_least qm_isCarried qm_list qm_nodes qm_kept qm_keptLow qm_keptHigh qm_keptNodes qm_numbers qm_sums qm_commands qm_held m_w m_pastMany m_filled m_length o_7 o_8 m_listMany m_went m_cost m_cause m_looks m_isSent m_isOld m_keptMany m_commandMany p1 r_10 o_11 o_12 hc_13) ⟨callB_of 1 hts (k_good u_913) rfl rfl rfl (hu _ u_51) (hu _ u_910) (by decide +kernel) ⟨Nat.le_of_ble_eq_true rfl, Nat.le_of_ble_eq_true rfl⟩, hu _ u_912, hu _ u_32⟩ rfl rfl rfl (by decide) (by decide) (by decide) rfl rfl rfl rfl hl.1 rfl (Nat.le_of_ble_eq_true rfl) dX6_link_41 (fun H locs hP hD hS => ?_)
        have hP : va_P D vwCl [(qm, .inr (6, [.ref qm_w, .ref qm_past, .int m_pastMany, .ref qm_images, .int m_filled, .ref qm_text, .int m_length, .ref qm_may, .ref qm_least, .ref qm_isCarried, .ref qm_list, .ref qm_nodes, .int m_listMany, .int m_went, .int m_cost, .int m_cause, .int m_looks, .int m_isSent, .int m_isOld, .ref qm_kept, .ref qm_keptLow, .ref qm_keptHigh, .int m_keptMany, .ref qm_keptNodes, .ref qm_numbers, .ref qm_sums, .ref qm_commands, .int m_commandMany, .ref qm_held])), (qm_w, .inl (cI, 93, .inl m_w)), (qm_may, .inl (cZ, 18, .inl o_11)), (qm_least, .inl (cI, 9, .inl o_12))] H := hP
        have hD : va_D A [(qm, .inr (6, [.ref qm_w, .ref qm_past, .int m_pastMany, .ref qm_images, .int m_filled, .ref qm_text, .int m_length, .ref qm_may, .ref qm_least, .ref qm_isCarried, .ref qm_list, .ref qm_nodes, .int m_listMany, .int m_went, .int m_cost, .int m_cause, .int m_looks, .int m_isSent, .int m_isOld, .ref qm_kept, .ref qm_keptLow, .ref qm_keptHigh, .int m_keptMany, .ref qm_keptNodes, .ref qm_numbers, .ref qm_sums, .ref qm_commands, .int m_commandMany, .ref qm_held])), (qm_w, .inl (cI, 93, .inl m_w)), (qm_may, .inl (cZ, 18, .inl o_11)), (qm_least, .inl (cI, 9, .inl o_12))] := hD
        refine lv_isub hx hb dX6_link_44 ?_
        have hq := Option.some.inj h
        clear h
        obtain ⟨e0, hq0⟩ := Prod.mk.inj hq
        clear hq
        obtain ⟨e1, hq1⟩ := Prod.mk.inj hq0
        clear hq0
        subst e0
        subst e1
        subst hq1
        exact k_retI hx hb hr hlocks hP hD hS dX6_link_45
      · have h := (if_neg cc_5).symm.trans h
        refine lv_aload_n hx hb dX6_link_24 rfl (lv_at hl 0 rfl) ?_
        refine lv_iload_n hx hb dX6_link_25 rfl (lv_at hl 1 rfl) ?_
        refine lv_iload_n hx hb dX6_link_26 rfl (lv_at hl 2 rfl) ?_
        obtain ⟨r_14, hc_15, h⟩ := ob_bind h
        refine k_callVIr (qb := 0) [0, 1] (As := [.int p1, .int p2]) (rest := []) ⟨hx, hb, hml, hown, hts⟩ hT hZ hA hP hD hS (c_X6_of l D cI cZ cN aK aV qm qm_w qm_past qm_images qm_text qm_may qm_least qm_isCarried qm_list qm_nodes qm_kept qm_keptLow qm_keptHigh qm_keptNodes qm_numbers qm_sums qm_commands qm_held m_w m_pastMany m_filled m_length m_listMany m_went m_cost m_cause m_looks m_isSent m_isOld m_keptMany m_commandMany p1 p2 r_14 hc_15) ⟨callB_of 2 hts (k_good u_840) rfl rfl rfl (hu _ u_51) (hu _ u_837) (by decide +kernel) ⟨Nat.le_of_ble_eq_true rfl, Nat.le_of_ble_eq_true rfl⟩, hu _ u_839, hu _ u_23⟩ rfl rfl rfl (by decide) rfl hl.1 rfl (Nat.le_of_ble_eq_true rfl) dX6_link_27 (fun H locs hP hD hS => ?_)
        refine lv_goto (tgt := 45) hx hb dX6_link_30 (by decide) ?_
        have hq := Option.some.inj h
        clear h
        obtain ⟨e0, hq0⟩ := Prod.mk.inj hq
        clear hq
        obtain ⟨e1, hq1⟩ := Prod.mk.inj hq0
        clear hq0
        subst e0
        subst e1
        subst hq1
        exact k_retI hx hb hr hlocks hP hD hS dX6_link_45
    · have h := (if_pos cc_4).symm.trans h
      refine lv_iconst (v := (-1 : Int32)) hx hb dX6_link_17 (by decide) ?_
      have hq := Option.some.inj h
      clear h
      obtain ⟨e0, hq0⟩ := Prod.mk.inj hq
      clear hq
      obtain ⟨e1, hq1⟩ := Prod.mk.inj hq0
      clear hq0
      subst e0
      subst e1
      subst hq1
      exact k_retI hx hb hr hlocks hP hD hS dX6_link_18
def f_X6_between (p1 : Int32) (p2 : Int32) (m_w : (Nat → Int32)) : Option (Int32) :=
  (f_X6_isNode p1 m_w).bind fun r_1 =>
  if r_1 = (0 : Int32) then
    some ((-1 : Int32))
  else
    (f_X6_isNode p2 m_w).bind fun r_4 =>
    if r_4 = (0 : Int32) then
      some ((-1 : Int32))
    else
      if p1 = p2 then
        some ((-1 : Int32))
      else
        (f_X6_linkOf p1 p2 m_w).bind fun r_8 =>
        some (r_8)
set_option maxHeartbeats 4000000 in
set_option maxRecDepth 100000 in
theorem c_X6_between (l : Launch) (D : va_G) (cI cZ cN : ClassId) (aK aV : Nat → Nat)  (qm : Nat) (qm_w : Nat) (qm_past : Nat) (qm_images : Nat) (qm_text : Nat) (qm_may : Nat) (qm_least : Nat) (qm_isCarried : Nat) (qm_list : Nat) (qm_nodes : Nat) (qm_kept : Nat) (qm_keptLow : Nat) (qm_keptHigh : Nat) (qm_keptNodes : Nat) (qm_numbers : Nat) (qm_sums : Nat) (qm_commands : Nat) (qm_held : Nat) (m_w : (Nat → Int32)) (m_pastMany : Int32) (m_filled : Int32) (m_length : Int32) (m_listMany : Int32) (m_went : Int32) (m_cost : Int32) (m_cause : Int32) (m_looks : Int32) (m_isSent : Int32) (m_isOld : Int32) (m_keptMany : Int32) (m_commandMany : Int32) (p1 p2 : Int32) (r : Int32) (h : f_X6_between p1 p2 m_w = some r) : CtI l D cI cZ cN aK aV yX6_between (k_W yX6_between cX6_between 3 (some .int)) { frames := 2, cells := 0, slots := 0, locals := 45 } [.ref qm, .int p1, .int p2] [(qm, .inr (6, [.ref qm_w, .ref qm_past, .int m_pastMany, .ref qm_images, .int m_filled, .ref qm_text, .int m_length, .ref qm_may, .ref qm_least, .ref qm_isCarried, .ref qm_list, .ref qm_nodes, .int m_listMany, .int m_went, .int m_cost, .int m_cause, .int m_looks, .int m_isSent, .int m_isOld, .ref qm_kept, .ref qm_keptLow, .ref qm_keptHigh, .int m_keptMany, .ref qm_keptNodes, .ref qm_numbers, .ref qm_sums, .ref qm_commands, .int m_commandMany, .ref qm_held])), (qm_w, .inl (cI, 93, .inl m_w))] r [(qm, .inr (6, [.ref qm_w, .ref qm_past, .int m_pastMany, .ref qm_images, .int m_filled, .ref qm_text, .int m_length, .ref qm_may, .ref qm_least, .ref qm_isCarried, .ref qm_list, .ref qm_nodes, .int m_listMany, .int m_went, .int m_cost, .int m_cause, .int m_looks, .int m_isSent, .int m_isOld, .ref qm_kept, .ref qm_keptLow, .ref qm_keptHigh, .int m_keptMany, .ref qm_keptNodes, .ref qm_numbers, .ref qm_sums, .ref qm_commands, .int m_commandMany, .ref qm_held])), (qm_w, .inl (cI, 93, .inl m_w))] := by
  refine k_startI (by decide) (Nat.le_of_ble_eq_true rfl) ?_
  intro p e s m below meth c A ls hx hb hr hml hown hts hlocks hT hZ hA hP hD hS hl
  have hK := hT.1
  have hu : ∀ w ∈ k_U, w.before ([.ref qm, .int p1, .int p2] : List Value).toArray s = true := fun w h => hts w (List.mem_cons_of_mem _ h)
  have hown : s.vm.findClass RX6 = some m.cls := hown
  have hl : lv_has ls 3 [(0, .ref qm), (1, .int p1), (2, .int p2)] := hl
  unfold f_X6_between at h
  refine lv_aload_n hx hb dX6_between_0 rfl (lv_at hl 0 rfl) ?_
  refine lv_iload_n hx hb dX6_between_1 rfl (lv_at hl 1 rfl) ?_
  obtain ⟨r_1, hc_2, h⟩ := ob_bind h
  refine k_callVIr (qb := 0) [0, 1] (As := [.int p1]) (rest := []) ⟨hx, hb, hml, hown, hts⟩ hT hZ hA hP hD hS (c_X6_isNode l D cI cZ cN aK aV qm qm_w qm_past qm_images qm_text qm_may qm_least qm_isCarried qm_list qm_nodes qm_kept qm_keptLow qm_keptHigh qm_keptNodes qm_numbers qm_sums qm_commands qm_held m_w m_pastMany m_filled m_length m_listMany m_went m_cost m_cause m_looks m_isSent m_isOld m_keptMany m_commandMany p1 r_1 hc_2) ⟨callB_of 1 hts (k_good u_832) rfl rfl rfl (hu _ u_51) (hu _ u_829) (by decide +kernel) ⟨Nat.le_of_ble_eq_true rfl, Nat.le_of_ble_eq_true rfl⟩, hu _ u_831, hu _ u_21⟩ rfl rfl rfl (by decide) rfl hl.1 rfl (Nat.le_of_ble_eq_true rfl) dX6_between_2 (fun H locs hP hD hS => ?_)
  refine lv_if_eq (tgt := 30) hx hb dX6_between_5 (by decide) (fun cc_3 => ?_) (fun cc_3 => ?_)
  · have h := (if_pos cc_3).symm.trans h
    refine lv_iconst (v := (-1 : Int32)) hx hb dX6_between_30 (by decide) ?_
    have hq := Option.some.inj h
    clear h
    subst hq
    exact k_retI hx hb hr hlocks hP hD hS dX6_between_31
  · have h := (if_neg cc_3).symm.trans h
    refine lv_aload_n hx hb dX6_between_8 rfl (lv_at hl 0 rfl) ?_
    refine lv_iload_n hx hb dX6_between_9 rfl (lv_at hl 2 rfl) ?_
    obtain ⟨r_4, hc_5, h⟩ := ob_bind h
    refine k_callVIr (qb := 0) [0, 1] (As := [.int p2]) (rest := []) ⟨hx, hb, hml, hown, hts⟩ hT hZ hA hP hD hS (c_X6_isNode l D cI cZ cN aK aV qm qm_w qm_past qm_images qm_text qm_may qm_least qm_isCarried qm_list qm_nodes qm_kept qm_keptLow qm_keptHigh qm_keptNodes qm_numbers qm_sums qm_commands qm_held m_w m_pastMany m_filled m_length m_listMany m_went m_cost m_cause m_looks m_isSent m_isOld m_keptMany m_commandMany p2 r_4 hc_5) ⟨callB_of 1 hts (k_good u_832) rfl rfl rfl (hu _ u_51) (hu _ u_829) (by decide +kernel) ⟨Nat.le_of_ble_eq_true rfl, Nat.le_of_ble_eq_true rfl⟩, hu _ u_831, hu _ u_21⟩ rfl rfl rfl (by decide) rfl hl.1 rfl (Nat.le_of_ble_eq_true rfl) dX6_between_10 (fun H locs hP hD hS => ?_)
    refine lv_if_eq (tgt := 30) hx hb dX6_between_13 (by decide) (fun cc_6 => ?_) (fun cc_6 => ?_)
    · have h := (if_pos cc_6).symm.trans h
      refine lv_iconst (v := (-1 : Int32)) hx hb dX6_between_30 (by decide) ?_
      have hq := Option.some.inj h
      clear h
      subst hq
      exact k_retI hx hb hr hlocks hP hD hS dX6_between_31
    · have h := (if_neg cc_6).symm.trans h
      refine lv_iload_n hx hb dX6_between_16 rfl (lv_at hl 1 rfl) ?_
      refine lv_iload_n hx hb dX6_between_17 rfl (lv_at hl 2 rfl) ?_
      refine lv_icmp_eq (tgt := 30) hx hb dX6_between_18 (by decide) (fun cc_7 => ?_) (fun cc_7 => ?_)
      · have h := (if_pos cc_7).symm.trans h
        refine lv_iconst (v := (-1 : Int32)) hx hb dX6_between_30 (by decide) ?_
        have hq := Option.some.inj h
        clear h
        subst hq
        exact k_retI hx hb hr hlocks hP hD hS dX6_between_31
      · have h := (if_neg cc_7).symm.trans h
        refine lv_aload_n hx hb dX6_between_21 rfl (lv_at hl 0 rfl) ?_
        refine lv_iload_n hx hb dX6_between_22 rfl (lv_at hl 1 rfl) ?_
        refine lv_iload_n hx hb dX6_between_23 rfl (lv_at hl 2 rfl) ?_
        obtain ⟨r_8, hc_9, h⟩ := ob_bind h
        refine k_callVIr (qb := 0) [0, 1] (As := [.int p1, .int p2]) (rest := []) ⟨hx, hb, hml, hown, hts⟩ hT hZ hA hP hD hS (c_X6_linkOf l D cI cZ cN aK aV qm qm_w qm_past qm_images qm_text qm_may qm_least qm_isCarried qm_list qm_nodes qm_kept qm_keptLow qm_keptHigh qm_keptNodes qm_numbers qm_sums qm_commands qm_held m_w m_pastMany m_filled m_length m_listMany m_went m_cost m_cause m_looks m_isSent m_isOld m_keptMany m_commandMany p1 p2 r_8 hc_9) ⟨callB_of 2 hts (k_good u_836) rfl rfl rfl (hu _ u_51) (hu _ u_833) (by decide +kernel) ⟨Nat.le_of_ble_eq_true rfl, Nat.le_of_ble_eq_true rfl⟩, hu _ u_835, hu _ u_22⟩ rfl rfl rfl (by decide) rfl hl.1 rfl (Nat.le_of_ble_eq_true rfl) dX6_between_24 (fun H locs hP hD hS => ?_)
        refine lv_goto (tgt := 31) hx hb dX6_between_27 (by decide) ?_
        have hq := Option.some.inj h
        clear h
        subst hq
        exact k_retI hx hb hr hlocks hP hD hS dX6_between_31
def f_X6_way_b98  : Nat → Int32 → Int32 → Int32 → (Nat → Int32) → (Nat → Int32) → (Nat → Int32) → Option (Int32 × (Nat → Int32) × (Nat → Int32))
  | 0, _, _, _, _, _, _ => none
  | n + 1, x3, x4, x5, m_w, m_may, m_least =>
    if x3 ≤ x5 then
      some (x4, m_may, m_least)
    else
      (f_X6_firstLink x4 m_w m_may m_least).bind fun r_17 =>
      (f_X6_otherEnd r_17 x4 m_w).bind fun r_19 =>
      (f_X6_way_b98 n) x3 r_19 (x5 + (1 : Int32)) m_w m_may m_least
def f_X6_way (p1 : Int32) (p2 : Int32) (p3 : Int32) (m_w : (Nat → Int32)) (m_may : (Nat → Int32)) (m_least : (Nat → Int32)) : Option (Int32 × (Nat → Int32) × (Nat → Int32)) :=
  (f_X6_isNode p1 m_w).bind fun r_1 =>
  if r_1 = (0 : Int32) then
    some ((-1 : Int32), m_may, m_least)
  else
    (f_X6_isNode p2 m_w).bind fun r_4 =>
    if r_4 = (0 : Int32) then
      some ((-1 : Int32), m_may, m_least)
    else
      if (-2 : Int32) ≤ p3 then
        (f_X6_layTrue p2 (-9 : Int32) m_w m_may m_least).bind fun ⟨o_8, o_9⟩ =>
        if inb p1 9 = true then
        if (o_9 (Int32.toNatClampNeg p1)) = (1000000 : Int32) then
          some ((-9 : Int32), o_8, o_9)
        else
          if (0 : Int32) ≤ p3 then
            if p3 ≤ ((o_9 (Int32.toNatClampNeg p1)) - (o_9 (Int32.toNatClampNeg p1)) / (16 : Int32) * (16 : Int32)) then
              f_X6_way_b98 1000 p3 p1 (0 : Int32) m_w o_8 o_9
            else
              some ((-9 : Int32), o_8, o_9)
          else
            if p3 = (-1 : Int32) then
              some (((o_9 (Int32.toNatClampNeg p1)) / (16 : Int32)), o_8, o_9)
            else
              some (((o_9 (Int32.toNatClampNeg p1)) - (o_9 (Int32.toNatClampNeg p1)) / (16 : Int32) * (16 : Int32)), o_8, o_9)
        else none
      else
        some ((-1 : Int32), m_may, m_least)
set_option maxHeartbeats 4000000 in
set_option maxRecDepth 100000 in
theorem c_X6_way (l : Launch) (D : va_G) (cI cZ cN : ClassId) (aK aV : Nat → Nat)  (qm : Nat) (qm_w : Nat) (qm_past : Nat) (qm_images : Nat) (qm_text : Nat) (qm_may : Nat) (qm_least : Nat) (qm_isCarried : Nat) (qm_list : Nat) (qm_nodes : Nat) (qm_kept : Nat) (qm_keptLow : Nat) (qm_keptHigh : Nat) (qm_keptNodes : Nat) (qm_numbers : Nat) (qm_sums : Nat) (qm_commands : Nat) (qm_held : Nat) (m_w : (Nat → Int32)) (m_pastMany : Int32) (m_filled : Int32) (m_length : Int32) (m_may : (Nat → Int32)) (m_least : (Nat → Int32)) (m_listMany : Int32) (m_went : Int32) (m_cost : Int32) (m_cause : Int32) (m_looks : Int32) (m_isSent : Int32) (m_isOld : Int32) (m_keptMany : Int32) (m_commandMany : Int32) (p1 p2 p3 : Int32) (r : Int32) (z_m_may : (Nat → Int32)) (z_m_least : (Nat → Int32)) (h : f_X6_way p1 p2 p3 m_w m_may m_least = some (r, z_m_may, z_m_least)) : CtI l D cI cZ cN aK aV yX6_way (k_W yX6_way cX6_way 6 (some .int)) { frames := 3, cells := 0, slots := 0, locals := 71 } [.ref qm, .int p1, .int p2, .int p3] [(qm, .inr (6, [.ref qm_w, .ref qm_past, .int m_pastMany, .ref qm_images, .int m_filled, .ref qm_text, .int m_length, .ref qm_may, .ref qm_least, .ref qm_isCarried, .ref qm_list, .ref qm_nodes, .int m_listMany, .int m_went, .int m_cost, .int m_cause, .int m_looks, .int m_isSent, .int m_isOld, .ref qm_kept, .ref qm_keptLow, .ref qm_keptHigh, .int m_keptMany, .ref qm_keptNodes, .ref qm_numbers, .ref qm_sums, .ref qm_commands, .int m_commandMany, .ref qm_held])), (qm_w, .inl (cI, 93, .inl m_w)), (qm_may, .inl (cZ, 18, .inl m_may)), (qm_least, .inl (cI, 9, .inl m_least))] r [(qm, .inr (6, [.ref qm_w, .ref qm_past, .int m_pastMany, .ref qm_images, .int m_filled, .ref qm_text, .int m_length, .ref qm_may, .ref qm_least, .ref qm_isCarried, .ref qm_list, .ref qm_nodes, .int m_listMany, .int m_went, .int m_cost, .int m_cause, .int m_looks, .int m_isSent, .int m_isOld, .ref qm_kept, .ref qm_keptLow, .ref qm_keptHigh, .int m_keptMany, .ref qm_keptNodes, .ref qm_numbers, .ref qm_sums, .ref qm_commands, .int m_commandMany, .ref qm_held])), (qm_w, .inl (cI, 93, .inl m_w)), (qm_may, .inl (cZ, 18, .inl z_m_may)), (qm_least, .inl (cI, 9, .inl z_m_least))] := by
  refine k_startI (by decide) (Nat.le_of_ble_eq_true rfl) ?_
  intro p e s m below meth c A ls hx hb hr hml hown hts hlocks hT hZ hA hP hD hS hl
  have hK := hT.1
  have hu : ∀ w ∈ k_U, w.before ([.ref qm, .int p1, .int p2, .int p3] : List Value).toArray s = true := fun w h => hts w (List.mem_cons_of_mem _ h)
  have hown : s.vm.findClass RX6 = some m.cls := hown
  have hl : lv_has ls 6 [(0, .ref qm), (1, .int p1), (2, .int p2), (3, .int p3)] := hl
  unfold f_X6_way at h
  have w98 : ∀ (n98 : Nat) (x3 : Int32) (x4 : Int32) (x5 : Int32) (m_w : (Nat → Int32)) (m_may : (Nat → Int32)) (m_least : (Nat → Int32)) (H : Heap) (locs : List Loc) (ls : Array Slot), va_P D vwCl [(qm, .inr (6, [.ref qm_w, .ref qm_past, .int m_pastMany, .ref qm_images, .int m_filled, .ref qm_text, .int m_length, .ref qm_may, .ref qm_least, .ref qm_isCarried, .ref qm_list, .ref qm_nodes, .int m_listMany, .int m_went, .int m_cost, .int m_cause, .int m_looks, .int m_isSent, .int m_isOld, .ref qm_kept, .ref qm_keptLow, .ref qm_keptHigh, .int m_keptMany, .ref qm_keptNodes, .ref qm_numbers, .ref qm_sums, .ref qm_commands, .int m_commandMany, .ref qm_held])), (qm_w, .inl (cI, 93, .inl m_w)), (qm_may, .inl (cZ, 18, .inl m_may)), (qm_least, .inl (cI, 9, .inl m_least))] H → va_D A [(qm, .inr (6, [.ref qm_w, .ref qm_past, .int m_pastMany, .ref qm_images, .int m_filled, .ref qm_text, .int m_length, .ref qm_may, .ref qm_least, .ref qm_isCarried, .ref qm_list, .ref qm_nodes, .int m_listMany, .int m_went, .int m_cost, .int m_cause, .int m_looks, .int m_isSent, .int m_isOld, .ref qm_kept, .ref qm_keptLow, .ref qm_keptHigh, .int m_keptMany, .ref qm_keptNodes, .ref qm_numbers, .ref qm_sums, .ref qm_commands, .int m_commandMany, .ref qm_held])), (qm_w, .inl (cI, 93, .inl m_w)), (qm_may, .inl (cZ, 18, .inl m_may)), (qm_least, .inl (cI, 9, .inl m_least))] → va_S A s.heap H locs → lv_has ls 6 [(0, .ref qm), (3, .int x3), (4, .int x4), (5, .int x5)] → f_X6_way_b98 n98 x3 x4 x5 m_w m_may m_least = some (r, z_m_may, z_m_least) → W p l e { frames := 3, cells := 0, slots := 0, locals := 71 } s m ([.ref qm, .int p1, .int p2, .int p3] : List Value).toArray below meth c H locs 0 0 (MQ below (k_QI D r [(qm, .inr (6, [.ref qm_w, .ref qm_past, .int m_pastMany, .ref qm_images, .int m_filled, .ref qm_text, .int m_length, .ref qm_may, .ref qm_least, .ref qm_isCarried, .ref qm_list, .ref qm_nodes, .int m_listMany, .int m_went, .int m_cost, .int m_cause, .int m_looks, .int m_isSent, .int m_isOld, .ref qm_kept, .ref qm_keptLow, .ref qm_keptHigh, .int m_keptMany, .ref qm_keptNodes, .ref qm_numbers, .ref qm_sums, .ref qm_commands, .int m_commandMany, .ref qm_held])), (qm_w, .inl (cI, 93, .inl m_w)), (qm_may, .inl (cZ, 18, .inl z_m_may)), (qm_least, .inl (cI, 9, .inl z_m_least))] A) ([.ref qm, .int p1, .int p2, .int p3] : List Value).toArray s 0 0 A) (F0 m 98 ls []) := by
    intro n98
    induction n98 with
    | zero =>
      intro x3 x4 x5 m_w m_may m_least H locs ls hP hD hS hl h
      rw [f_X6_way_b98] at h
      cases h
    | succ n98 ih98 =>
      intro x3 x4 x5 m_w m_may m_least H locs ls hP hD hS hl h
      rw [f_X6_way_b98] at h
      refine lv_iload hx hb dX6_way_98 (lv_at hl 3 rfl) ?_
      refine lv_iload_n hx hb dX6_way_100 rfl (lv_at hl 1 rfl) ?_
      refine lv_icmp_ge (tgt := 124) hx hb dX6_way_101 (by decide) (fun cc_16 => ?_) (fun cc_16 => ?_)
      · have h := (if_pos cc_16).symm.trans h
        refine lv_iload hx hb dX6_way_124 (lv_at hl 2 rfl) ?_
        have hq := Option.some.inj h
        clear h
        obtain ⟨e0, hq0⟩ := Prod.mk.inj hq
        clear hq
        obtain ⟨e1, hq1⟩ := Prod.mk.inj hq0
        clear hq0
        subst e0
        subst e1
        subst hq1
        exact k_retI hx hb hr hlocks hP hD hS dX6_way_126
      · have h := (if_neg cc_16).symm.trans h
        refine lv_aload_n hx hb dX6_way_104 rfl (lv_at hl 0 rfl) ?_
        refine lv_aload_n hx hb dX6_way_105 rfl (lv_at hl 0 rfl) ?_
        refine lv_iload hx hb dX6_way_106 (lv_at hl 2 rfl) ?_
        obtain ⟨r_17, hc_18, h⟩ := ob_bind h
        refine k_callVIr (qb := 0) [0, 1, 2, 3] (As := [.int x4]) (rest := [.ref qm]) ⟨hx, hb, hml, hown, hts⟩ hT hZ hA hP hD hS (c_X6_firstLink l D cI cZ cN aK aV qm qm_w qm_past qm_images qm_text qm_may qm_least qm_isCarried qm_list qm_nodes qm_kept qm_keptLow qm_keptHigh qm_keptNodes qm_numbers qm_sums qm_commands qm_held m_w m_pastMany m_filled m_length m_may m_least m_listMany m_went m_cost m_cause m_looks m_isSent m_isOld m_keptMany m_commandMany x4 r_17 hc_18) ⟨callB_of 1 hts (k_good u_925) rfl rfl rfl (hu _ u_51) (hu _ u_922) (by decide +kernel) ⟨Nat.le_of_ble_eq_true rfl, Nat.le_of_ble_eq_true rfl⟩, hu _ u_924, hu _ u_33⟩ rfl rfl rfl (by decide) rfl hl.1 rfl (Nat.le_of_ble_eq_true rfl) dX6_way_108 (fun H locs hP hD hS => ?_)
        refine lv_iload hx hb dX6_way_111 (lv_at hl 2 rfl) ?_
        obtain ⟨r_19, hc_20, h⟩ := ob_bind h
        refine k_callVIr (qb := 0) [0, 1] (As := [.int r_17, .int x4]) (rest := []) ⟨hx, hb, hml, hown, hts⟩ hT hZ hA hP hD hS (c_X6_otherEnd l D cI cZ cN aK aV qm qm_w qm_past qm_images qm_text qm_may qm_least qm_isCarried qm_list qm_nodes qm_kept qm_keptLow qm_keptHigh qm_keptNodes qm_numbers qm_sums qm_commands qm_held m_w m_pastMany m_filled m_length m_listMany m_went m_cost m_cause m_looks m_isSent m_isOld m_keptMany m_commandMany r_17 x4 r_19 hc_20) ⟨callB_of 2 hts (k_good u_929) rfl rfl rfl (hu _ u_51) (hu _ u_926) (by decide +kernel) ⟨Nat.le_of_ble_eq_true rfl, Nat.le_of_ble_eq_true rfl⟩, hu _ u_928, hu _ u_34⟩ rfl rfl rfl (by decide) rfl hl.1 rfl (Nat.le_of_ble_eq_true rfl) dX6_way_113 (fun H locs hP hD hS => ?_)
        refine lv_istore (lv' := [(4, .int r_19), (0, .ref qm), (3, .int x3), (5, .int x5)]) hx hb dX6_way_116 hl (by decide) rfl (fun ls hl => ?_)
        refine lv_iinc (v := (x5 + (1 : Int32))) (lv' := [(5, .int (x5 + (1 : Int32))), (4, .int r_19), (0, .ref qm), (3, .int x3)]) hx hb dX6_way_118 hl (k := 3) rfl rfl (by decide) rfl (fun ls hl => ?_)
        refine lv_goto (tgt := 98) hx hb dX6_way_121 (by decide) ?_
        exact ih98 x3 r_19 (x5 + (1 : Int32)) m_w m_may m_least _ _ _ hP hD hS (lv_sub hl [2, 3, 1, 0] rfl) h
  refine lv_aload_n hx hb dX6_way_0 rfl (lv_at hl 0 rfl) ?_
  refine lv_iload_n hx hb dX6_way_1 rfl (lv_at hl 1 rfl) ?_
  obtain ⟨r_1, hc_2, h⟩ := ob_bind h
  refine k_callVIr (qb := 0) [0, 1] (As := [.int p1]) (rest := []) ⟨hx, hb, hml, hown, hts⟩ hT hZ hA hP hD hS (c_X6_isNode l D cI cZ cN aK aV qm qm_w qm_past qm_images qm_text qm_may qm_least qm_isCarried qm_list qm_nodes qm_kept qm_keptLow qm_keptHigh qm_keptNodes qm_numbers qm_sums qm_commands qm_held m_w m_pastMany m_filled m_length m_listMany m_went m_cost m_cause m_looks m_isSent m_isOld m_keptMany m_commandMany p1 r_1 hc_2) ⟨callB_of 1 hts (k_good u_832) rfl rfl rfl (hu _ u_51) (hu _ u_829) (by decide +kernel) ⟨Nat.le_of_ble_eq_true rfl, Nat.le_of_ble_eq_true rfl⟩, hu _ u_831, hu _ u_21⟩ rfl rfl rfl (by decide) rfl hl.1 rfl (Nat.le_of_ble_eq_true rfl) dX6_way_2 (fun H locs hP hD hS => ?_)
  refine lv_if_eq (tgt := 22) hx hb dX6_way_5 (by decide) (fun cc_3 => ?_) (fun cc_3 => ?_)
  · have h := (if_pos cc_3).symm.trans h
    refine lv_iconst (v := (-1 : Int32)) hx hb dX6_way_22 (by decide) ?_
    have hq := Option.some.inj h
    clear h
    obtain ⟨e0, hq0⟩ := Prod.mk.inj hq
    clear hq
    obtain ⟨e1, hq1⟩ := Prod.mk.inj hq0
    clear hq0
    subst e0
    subst e1
    subst hq1
    exact k_retI hx hb hr hlocks hP hD hS dX6_way_23
  · have h := (if_neg cc_3).symm.trans h
    refine lv_aload_n hx hb dX6_way_8 rfl (lv_at hl 0 rfl) ?_
    refine lv_iload_n hx hb dX6_way_9 rfl (lv_at hl 2 rfl) ?_
    obtain ⟨r_4, hc_5, h⟩ := ob_bind h
    refine k_callVIr (qb := 0) [0, 1] (As := [.int p2]) (rest := []) ⟨hx, hb, hml, hown, hts⟩ hT hZ hA hP hD hS (c_X6_isNode l D cI cZ cN aK aV qm qm_w qm_past qm_images qm_text qm_may qm_least qm_isCarried qm_list qm_nodes qm_kept qm_keptLow qm_keptHigh qm_keptNodes qm_numbers qm_sums qm_commands qm_held m_w m_pastMany m_filled m_length m_listMany m_went m_cost m_cause m_looks m_isSent m_isOld m_keptMany m_commandMany p2 r_4 hc_5) ⟨callB_of 1 hts (k_good u_832) rfl rfl rfl (hu _ u_51) (hu _ u_829) (by decide +kernel) ⟨Nat.le_of_ble_eq_true rfl, Nat.le_of_ble_eq_true rfl⟩, hu _ u_831, hu _ u_21⟩ rfl rfl rfl (by decide) rfl hl.1 rfl (Nat.le_of_ble_eq_true rfl) dX6_way_10 (fun H locs hP hD hS => ?_)
    refine lv_if_eq (tgt := 22) hx hb dX6_way_13 (by decide) (fun cc_6 => ?_) (fun cc_6 => ?_)
    · have h := (if_pos cc_6).symm.trans h
      refine lv_iconst (v := (-1 : Int32)) hx hb dX6_way_22 (by decide) ?_
      have hq := Option.some.inj h
      clear h
      obtain ⟨e0, hq0⟩ := Prod.mk.inj hq
      clear hq
      obtain ⟨e1, hq1⟩ := Prod.mk.inj hq0
      clear hq0
      subst e0
      subst e1
      subst hq1
      exact k_retI hx hb hr hlocks hP hD hS dX6_way_23
    · have h := (if_neg cc_6).symm.trans h
      refine lv_iload_n hx hb dX6_way_16 rfl (lv_at hl 3 rfl) ?_
      refine lv_bipush (v := (-2 : Int32)) hx hb dX6_way_17 (by decide) ?_
      refine lv_icmp_ge (tgt := 24) hx hb dX6_way_19 (by decide) (fun cc_7 => ?_) (fun cc_7 => ?_)
      · have h := (if_pos cc_7).symm.trans h
        refine lv_aload_n hx hb dX6_way_24 rfl (lv_at hl 0 rfl) ?_
        refine lv_iload_n hx hb dX6_way_25 rfl (lv_at hl 2 rfl) ?_
        refine lv_bipush (v := (-9 : Int32)) hx hb dX6_way_26 (by decide) ?_
        obtain ⟨⟨o_8, o_9⟩, hc_10, h⟩ := ob_bind h
        dsimp only at h
        refine k_callVV (qb := 0) [0, 1, 2, 3] [2, 3] [2, 3] [(qm_may, .inl (cZ, 18, .inl o_8)), (qm_least, .inl (cI, 9, .inl o_9))] (As := [.int p2, .int (-9 : Int32)]) (rest := []) ⟨hx, hb, hml, hown, hts⟩ hT hZ hA hP hD hS (c_X6_layTrue l D cI cZ cN aK aV qm qm_w qm_past qm_images qm_text qm_may qm_least qm_isCarried qm_list qm_nodes qm_kept qm_keptLow qm_keptHigh qm_keptNodes qm_numbers qm_sums qm_commands qm_held m_w m_pastMany m_filled m_length m_may m_least m_listMany m_went m_cost m_cause m_looks m_isSent m_isOld m_keptMany m_commandMany p2 (-9 : Int32) o_8 o_9 hc_10) ⟨callB_of 2 hts (k_good u_900) rfl rfl rfl (hu _ u_51) (hu _ u_897) (by decide +kernel) ⟨Nat.le_of_ble_eq_true rfl, Nat.le_of_ble_eq_true rfl⟩, hu _ u_899, hu _ u_30⟩ rfl rfl rfl (by decide) (by decide) (by decide) rfl rfl rfl rfl hl.1 rfl (Nat.le_of_ble_eq_true rfl) dX6_way_28 (fun H locs hP hD hS => ?_)
        have hP : va_P D vwCl [(qm, .inr (6, [.ref qm_w, .ref qm_past, .int m_pastMany, .ref qm_images, .int m_filled, .ref qm_text, .int m_length, .ref qm_may, .ref qm_least, .ref qm_isCarried, .ref qm_list, .ref qm_nodes, .int m_listMany, .int m_went, .int m_cost, .int m_cause, .int m_looks, .int m_isSent, .int m_isOld, .ref qm_kept, .ref qm_keptLow, .ref qm_keptHigh, .int m_keptMany, .ref qm_keptNodes, .ref qm_numbers, .ref qm_sums, .ref qm_commands, .int m_commandMany, .ref qm_held])), (qm_w, .inl (cI, 93, .inl m_w)), (qm_may, .inl (cZ, 18, .inl o_8)), (qm_least, .inl (cI, 9, .inl o_9))] H := hP
        have hD : va_D A [(qm, .inr (6, [.ref qm_w, .ref qm_past, .int m_pastMany, .ref qm_images, .int m_filled, .ref qm_text, .int m_length, .ref qm_may, .ref qm_least, .ref qm_isCarried, .ref qm_list, .ref qm_nodes, .int m_listMany, .int m_went, .int m_cost, .int m_cause, .int m_looks, .int m_isSent, .int m_isOld, .ref qm_kept, .ref qm_keptLow, .ref qm_keptHigh, .int m_keptMany, .ref qm_keptNodes, .ref qm_numbers, .ref qm_sums, .ref qm_commands, .int m_commandMany, .ref qm_held])), (qm_w, .inl (cI, 93, .inl m_w)), (qm_may, .inl (cZ, 18, .inl o_8)), (qm_least, .inl (cI, 9, .inl o_9))] := hD
        refine lv_aload_n hx hb dX6_way_31 rfl (lv_at hl 0 rfl) ?_
        refine va_get (D := D) (ci := 6) (v := .ref qm_least) (C := RX6) (T := TX6) (N := 29) hx hb hu k_iX6 hown hK hP 0 rfl rfl 8 (by decide) (hu _ u_726) (fun _ h9 => h9) rfl dX6_way_32 ?_
        refine lv_iload_n hx hb dX6_way_35 rfl (lv_at hl 1 rfl) ?_
        obtain ⟨hin_11, h⟩ := ob_if h
        have hin_11 := inb_in hin_11
        refine va_iald (D := D) hx hb hK hP 3 0 rfl rfl hin_11 dX6_way_36 ?_
        refine lv_ldc (v := (1000000 : Int32)) hx hb hown (hu _ u_905) dX6_way_37 ?_
        refine lv_icmp_ne (tgt := 45) hx hb dX6_way_39 (by decide) (fun cc_12 => ?_) (fun cc_12 => ?_)
        · have h := (if_neg cc_12).symm.trans h
          refine lv_iload_n hx hb dX6_way_45 rfl (lv_at hl 3 rfl) ?_
          refine lv_if_ge (tgt := 76) hx hb dX6_way_46 (by decide) (fun cc_13 => ?_) (fun cc_13 => ?_)
          · have h := (if_pos cc_13).symm.trans h
            refine lv_iload_n hx hb dX6_way_76 rfl (lv_at hl 3 rfl) ?_
            refine lv_aload_n hx hb dX6_way_77 rfl (lv_at hl 0 rfl) ?_
            refine va_get (D := D) (ci := 6) (v := .ref qm_least) (C := RX6) (T := TX6) (N := 29) hx hb hu k_iX6 hown hK hP 0 rfl rfl 8 (by decide) (hu _ u_726) (fun _ h9 => h9) rfl dX6_way_78 ?_
            refine lv_iload_n hx hb dX6_way_81 rfl (lv_at hl 1 rfl) ?_
            refine va_iald (D := D) hx hb hK hP 3 0 rfl rfl hin_11 dX6_way_82 ?_
            refine lv_bipush (v := (16 : Int32)) hx hb dX6_way_83 (by decide) ?_
            refine lv_irem hx hb dX6_way_85 (by decide) ?_
            refine lv_icmp_le (tgt := 92) hx hb dX6_way_86 (by decide) (fun cc_14 => ?_) (fun cc_14 => ?_)
            · have h := (if_pos cc_14).symm.trans h
              refine lv_iload_n hx hb dX6_way_92 rfl (lv_at hl 1 rfl) ?_
              refine lv_istore (lv' := [(4, .int p1), (0, .ref qm), (1, .int p1), (2, .int p2), (3, .int p3)]) hx hb dX6_way_93 hl (by decide) rfl (fun ls hl => ?_)
              refine lv_iconst (v := (0 : Int32)) hx hb dX6_way_95 (by decide) ?_
              refine lv_istore (lv' := [(5, .int (0 : Int32)), (4, .int p1), (0, .ref qm), (1, .int p1), (2, .int p2), (3, .int p3)]) hx hb dX6_way_96 hl (by decide) rfl (fun ls hl => ?_)
              exact w98 1000 p3 p1 (0 : Int32) m_w o_8 o_9 _ _ _ hP hD hS (lv_sub hl [2, 5, 1, 0] rfl) h
            · have h := (if_neg cc_14).symm.trans h
              refine lv_bipush (v := (-9 : Int32)) hx hb dX6_way_89 (by decide) ?_
              have hq := Option.some.inj h
              clear h
              obtain ⟨e0, hq0⟩ := Prod.mk.inj hq
              clear hq
              obtain ⟨e1, hq1⟩ := Prod.mk.inj hq0
              clear hq0
              subst e0
              subst e1
              subst hq1
              exact k_retI hx hb hr hlocks hP hD hS dX6_way_91
          · have h := (if_neg cc_13).symm.trans h
            refine lv_iload_n hx hb dX6_way_49 rfl (lv_at hl 3 rfl) ?_
            refine lv_iconst (v := (-1 : Int32)) hx hb dX6_way_50 (by decide) ?_
            refine lv_icmp_ne (tgt := 66) hx hb dX6_way_51 (by decide) (fun cc_15 => ?_) (fun cc_15 => ?_)
            · have h := (if_neg cc_15).symm.trans h
              refine lv_aload_n hx hb dX6_way_66 rfl (lv_at hl 0 rfl) ?_
              refine va_get (D := D) (ci := 6) (v := .ref qm_least) (C := RX6) (T := TX6) (N := 29) hx hb hu k_iX6 hown hK hP 0 rfl rfl 8 (by decide) (hu _ u_726) (fun _ h9 => h9) rfl dX6_way_67 ?_
              refine lv_iload_n hx hb dX6_way_70 rfl (lv_at hl 1 rfl) ?_
              refine va_iald (D := D) hx hb hK hP 3 0 rfl rfl hin_11 dX6_way_71 ?_
              refine lv_bipush (v := (16 : Int32)) hx hb dX6_way_72 (by decide) ?_
              refine lv_irem hx hb dX6_way_74 (by decide) ?_
              have hq := Option.some.inj h
              clear h
              obtain ⟨e0, hq0⟩ := Prod.mk.inj hq
              clear hq
              obtain ⟨e1, hq1⟩ := Prod.mk.inj hq0
              clear hq0
              subst e0
              subst e1
              subst hq1
              exact k_retI hx hb hr hlocks hP hD hS dX6_way_75
            · have h := (if_pos cc_15).symm.trans h
              refine lv_aload_n hx hb dX6_way_54 rfl (lv_at hl 0 rfl) ?_
              refine va_get (D := D) (ci := 6) (v := .ref qm_least) (C := RX6) (T := TX6) (N := 29) hx hb hu k_iX6 hown hK hP 0 rfl rfl 8 (by decide) (hu _ u_726) (fun _ h9 => h9) rfl dX6_way_55 ?_
              refine lv_iload_n hx hb dX6_way_58 rfl (lv_at hl 1 rfl) ?_
              refine va_iald (D := D) hx hb hK hP 3 0 rfl rfl hin_11 dX6_way_59 ?_
              refine lv_bipush (v := (16 : Int32)) hx hb dX6_way_60 (by decide) ?_
              refine lv_idiv hx hb dX6_way_62 (by decide) ?_
              refine lv_goto (tgt := 75) hx hb dX6_way_63 (by decide) ?_
              have hq := Option.some.inj h
              clear h
              obtain ⟨e0, hq0⟩ := Prod.mk.inj hq
              clear hq
              obtain ⟨e1, hq1⟩ := Prod.mk.inj hq0
              clear hq0
              subst e0
              subst e1
              subst hq1
              exact k_retI hx hb hr hlocks hP hD hS dX6_way_75
        · have h := (if_pos cc_12).symm.trans h
          refine lv_bipush (v := (-9 : Int32)) hx hb dX6_way_42 (by decide) ?_
          have hq := Option.some.inj h
          clear h
          obtain ⟨e0, hq0⟩ := Prod.mk.inj hq
          clear hq
          obtain ⟨e1, hq1⟩ := Prod.mk.inj hq0
          clear hq0
          subst e0
          subst e1
          subst hq1
          exact k_retI hx hb hr hlocks hP hD hS dX6_way_44
      · have h := (if_neg cc_7).symm.trans h
        refine lv_iconst (v := (-1 : Int32)) hx hb dX6_way_22 (by decide) ?_
        have hq := Option.some.inj h
        clear h
        obtain ⟨e0, hq0⟩ := Prod.mk.inj hq
        clear hq
        obtain ⟨e1, hq1⟩ := Prod.mk.inj hq0
        clear hq0
        subst e0
        subst e1
        subst hq1
        exact k_retI hx hb hr hlocks hP hD hS dX6_way_23
