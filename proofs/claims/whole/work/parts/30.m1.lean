def f_X6_isIn (p0 : Int32) (p1 : Int32) (p2 : Int32) : Int32 :=
  if p0 < p1 then
    (0 : Int32)
  else
    if p2 < p0 then
      (0 : Int32)
    else
      (1 : Int32)
set_option maxHeartbeats 4000000 in
set_option maxRecDepth 100000 in
theorem c_X6_isIn (l : Launch) (D : va_G) (cI cZ cN : ClassId) (aK aV : Nat → Nat)  (p0 p1 p2 : Int32) (r : Int32) (h : f_X6_isIn p0 p1 p2 = r) : CtI l D cI cZ cN aK aV yX6_isIn (k_W yX6_isIn cX6_isIn 3 (some .boolean)) { frames := 0, cells := 0, slots := 0, locals := 0 } [.int p0, .int p1, .int p2] [] r [] := by
  refine k_startI (by decide) (Nat.le_of_ble_eq_true rfl) ?_
  intro p e s m below meth c A ls hx hb hr hml hown hts hlocks hT hZ hA hP hD hS hl
  have hK := hT.1
  have hu : ∀ w ∈ k_U, w.before ([.int p0, .int p1, .int p2] : List Value).toArray s = true := fun w h => hts w (List.mem_cons_of_mem _ h)
  have hown : s.vm.findClass RX6 = some m.cls := hown
  have hl : lv_has ls 3 [(0, .int p0), (1, .int p1), (2, .int p2)] := hl
  unfold f_X6_isIn at h
  refine lv_iload_n hx hb dX6_isIn_0 rfl (lv_at hl 0 rfl) ?_
  refine lv_iload_n hx hb dX6_isIn_1 rfl (lv_at hl 1 rfl) ?_
  refine lv_icmp_lt (tgt := 14) hx hb dX6_isIn_2 (by decide) (fun cc_1 => ?_) (fun cc_1 => ?_)
  · have h := (if_pos cc_1).symm.trans h
    refine lv_iconst (v := (0 : Int32)) hx hb dX6_isIn_14 (by decide) ?_
    have hq := h
    clear h
    subst hq
    exact k_retZ hx hb hr hlocks (Or.inl rfl) hP hD hS dX6_isIn_15
  · have h := (if_neg cc_1).symm.trans h
    refine lv_iload_n hx hb dX6_isIn_5 rfl (lv_at hl 0 rfl) ?_
    refine lv_iload_n hx hb dX6_isIn_6 rfl (lv_at hl 2 rfl) ?_
    refine lv_icmp_gt (tgt := 14) hx hb dX6_isIn_7 (by decide) (fun cc_2 => ?_) (fun cc_2 => ?_)
    · have h := (if_pos cc_2).symm.trans h
      refine lv_iconst (v := (0 : Int32)) hx hb dX6_isIn_14 (by decide) ?_
      have hq := h
      clear h
      subst hq
      exact k_retZ hx hb hr hlocks (Or.inl rfl) hP hD hS dX6_isIn_15
    · have h := (if_neg cc_2).symm.trans h
      refine lv_iconst (v := (1 : Int32)) hx hb dX6_isIn_10 (by decide) ?_
      refine lv_goto (tgt := 15) hx hb dX6_isIn_11 (by decide) ?_
      have hq := h
      clear h
      subst hq
      exact k_retZ hx hb hr hlocks (Or.inr rfl) hP hD hS dX6_isIn_15
def f_X6_partsOf (p0 : Int32) : Int32 :=
  if p0 = (0 : Int32) then
    (4 : Int32)
  else
    if p0 = (4 : Int32) then
      (2 : Int32)
    else
      (3 : Int32)
set_option maxHeartbeats 4000000 in
set_option maxRecDepth 100000 in
theorem c_X6_partsOf (l : Launch) (D : va_G) (cI cZ cN : ClassId) (aK aV : Nat → Nat)  (p0 : Int32) (r : Int32) (h : f_X6_partsOf p0 = r) : CtI l D cI cZ cN aK aV yX6_partsOf (k_W yX6_partsOf cX6_partsOf 1 (some .int)) { frames := 0, cells := 0, slots := 0, locals := 0 } [.int p0] [] r [] := by
  refine k_startI (by decide) (Nat.le_of_ble_eq_true rfl) ?_
  intro p e s m below meth c A ls hx hb hr hml hown hts hlocks hT hZ hA hP hD hS hl
  have hK := hT.1
  have hu : ∀ w ∈ k_U, w.before ([.int p0] : List Value).toArray s = true := fun w h => hts w (List.mem_cons_of_mem _ h)
  have hown : s.vm.findClass RX6 = some m.cls := hown
  have hl : lv_has ls 1 [(0, .int p0)] := hl
  unfold f_X6_partsOf at h
  refine lv_iload_n hx hb dX6_partsOf_0 rfl (lv_at hl 0 rfl) ?_
  refine lv_if_ne (tgt := 8) hx hb dX6_partsOf_1 (by decide) (fun cc_1 => ?_) (fun cc_1 => ?_)
  · have h := (if_neg cc_1).symm.trans h
    refine lv_iload_n hx hb dX6_partsOf_8 rfl (lv_at hl 0 rfl) ?_
    refine lv_iconst (v := (4 : Int32)) hx hb dX6_partsOf_9 (by decide) ?_
    refine lv_icmp_ne (tgt := 17) hx hb dX6_partsOf_10 (by decide) (fun cc_2 => ?_) (fun cc_2 => ?_)
    · have h := (if_neg cc_2).symm.trans h
      refine lv_iconst (v := (3 : Int32)) hx hb dX6_partsOf_17 (by decide) ?_
      have hq := h
      clear h
      subst hq
      exact k_retI hx hb hr hlocks hP hD hS dX6_partsOf_18
    · have h := (if_pos cc_2).symm.trans h
      refine lv_iconst (v := (2 : Int32)) hx hb dX6_partsOf_13 (by decide) ?_
      refine lv_goto (tgt := 18) hx hb dX6_partsOf_14 (by decide) ?_
      have hq := h
      clear h
      subst hq
      exact k_retI hx hb hr hlocks hP hD hS dX6_partsOf_18
  · have h := (if_pos cc_1).symm.trans h
    refine lv_iconst (v := (4 : Int32)) hx hb dX6_partsOf_4 (by decide) ?_
    refine lv_goto (tgt := 18) hx hb dX6_partsOf_5 (by decide) ?_
    have hq := h
    clear h
    subst hq
    exact k_retI hx hb hr hlocks hP hD hS dX6_partsOf_18
def f_X6_wanted (p0 : Int32) (p1 : Int32) : Int32 :=
  if p0 = (4 : Int32) then
    (21 : Int32)
  else
    if p1 = (3 : Int32) then
      (21 : Int32)
    else
      (20 : Int32)
set_option maxHeartbeats 4000000 in
set_option maxRecDepth 100000 in
theorem c_X6_wanted (l : Launch) (D : va_G) (cI cZ cN : ClassId) (aK aV : Nat → Nat)  (p0 p1 : Int32) (r : Int32) (h : f_X6_wanted p0 p1 = r) : CtI l D cI cZ cN aK aV yX6_wanted (k_W yX6_wanted cX6_wanted 2 (some .int)) { frames := 0, cells := 0, slots := 0, locals := 0 } [.int p0, .int p1] [] r [] := by
  refine k_startI (by decide) (Nat.le_of_ble_eq_true rfl) ?_
  intro p e s m below meth c A ls hx hb hr hml hown hts hlocks hT hZ hA hP hD hS hl
  have hK := hT.1
  have hu : ∀ w ∈ k_U, w.before ([.int p0, .int p1] : List Value).toArray s = true := fun w h => hts w (List.mem_cons_of_mem _ h)
  have hown : s.vm.findClass RX6 = some m.cls := hown
  have hl : lv_has ls 2 [(0, .int p0), (1, .int p1)] := hl
  unfold f_X6_wanted at h
  refine lv_iload_n hx hb dX6_wanted_0 rfl (lv_at hl 0 rfl) ?_
  refine lv_iconst (v := (4 : Int32)) hx hb dX6_wanted_1 (by decide) ?_
  refine lv_icmp_eq (tgt := 10) hx hb dX6_wanted_2 (by decide) (fun cc_1 => ?_) (fun cc_1 => ?_)
  · have h := (if_pos cc_1).symm.trans h
    refine lv_bipush (v := (21 : Int32)) hx hb dX6_wanted_10 (by decide) ?_
    refine lv_goto (tgt := 17) hx hb dX6_wanted_12 (by decide) ?_
    have hq := h
    clear h
    subst hq
    exact k_retI hx hb hr hlocks hP hD hS dX6_wanted_17
  · have h := (if_neg cc_1).symm.trans h
    refine lv_iload_n hx hb dX6_wanted_5 rfl (lv_at hl 1 rfl) ?_
    refine lv_iconst (v := (3 : Int32)) hx hb dX6_wanted_6 (by decide) ?_
    refine lv_icmp_ne (tgt := 15) hx hb dX6_wanted_7 (by decide) (fun cc_2 => ?_) (fun cc_2 => ?_)
    · have h := (if_neg cc_2).symm.trans h
      refine lv_bipush (v := (20 : Int32)) hx hb dX6_wanted_15 (by decide) ?_
      have hq := h
      clear h
      subst hq
      exact k_retI hx hb hr hlocks hP hD hS dX6_wanted_17
    · have h := (if_pos cc_2).symm.trans h
      refine lv_bipush (v := (21 : Int32)) hx hb dX6_wanted_10 (by decide) ?_
      refine lv_goto (tgt := 17) hx hb dX6_wanted_12 (by decide) ?_
      have hq := h
      clear h
      subst hq
      exact k_retI hx hb hr hlocks hP hD hS dX6_wanted_17
def f_X6_isImage (p0 : Int32) : Option (Int32) :=
  if isb (f_X6_isIn p0 (0 : Int32) (1 : Int32)) = true then
  some ((f_X6_isIn p0 (0 : Int32) (1 : Int32)))
  else none
set_option maxHeartbeats 4000000 in
set_option maxRecDepth 100000 in
theorem c_X6_isImage (l : Launch) (D : va_G) (cI cZ cN : ClassId) (aK aV : Nat → Nat)  (p0 : Int32) (r : Int32) (h : f_X6_isImage p0 = some r) : CtI l D cI cZ cN aK aV yX6_isImage (k_W yX6_isImage cX6_isImage 1 (some .boolean)) { frames := 1, cells := 0, slots := 0, locals := 22 } [.int p0] [] r [] := by
  refine k_startI (by decide) (Nat.le_of_ble_eq_true rfl) ?_
  intro p e s m below meth c A ls hx hb hr hml hown hts hlocks hT hZ hA hP hD hS hl
  have hK := hT.1
  have hu : ∀ w ∈ k_U, w.before ([.int p0] : List Value).toArray s = true := fun w h => hts w (List.mem_cons_of_mem _ h)
  have hown : s.vm.findClass RX6 = some m.cls := hown
  have hl : lv_has ls 1 [(0, .int p0)] := hl
  unfold f_X6_isImage at h
  refine lv_iload_n hx hb dX6_isImage_0 rfl (lv_at hl 0 rfl) ?_
  refine lv_iconst (v := (0 : Int32)) hx hb dX6_isImage_1 (by decide) ?_
  refine lv_iconst (v := (1 : Int32)) hx hb dX6_isImage_2 (by decide) ?_
  refine k_call0 (As := [.int p0, .int (0 : Int32), .int (1 : Int32)]) (rest := []) ⟨hx, hb, hml, hown, hts⟩ hT hZ hA hP hD hS (c_X6_isIn l D cI cZ cN aK aV p0 (0 : Int32) (1 : Int32) _ rfl) ⟨callB_of 3 hts (k_good u_812) rfl rfl rfl (hu _ u_51) (hu _ u_810) (by decide +kernel) ⟨Nat.le_of_ble_eq_true rfl, Nat.le_of_ble_eq_true rfl⟩, hu _ u_811⟩ rfl hl.1 rfl (Nat.le_of_ble_eq_true rfl) dX6_isImage_3 (fun H locs hP hD hS => ?_)
  obtain ⟨hbz, h⟩ := ob_if h
  have hq := Option.some.inj h
  clear h
  subst hq
  exact k_retZ hx hb hr hlocks (isb_or hbz) hP hD hS dX6_isImage_6
def f_X6_isNode (p1 : Int32) (m_w : (Nat → Int32)) : Option (Int32) :=
  if isb (f_X6_isIn p1 (0 : Int32) ((m_w (Int32.toNatClampNeg (0 : Int32))) - (1 : Int32))) = true then
  some ((f_X6_isIn p1 (0 : Int32) ((m_w (Int32.toNatClampNeg (0 : Int32))) - (1 : Int32))))
  else none
set_option maxHeartbeats 4000000 in
set_option maxRecDepth 100000 in
theorem c_X6_isNode (l : Launch) (D : va_G) (cI cZ cN : ClassId) (aK aV : Nat → Nat)  (qm : Nat) (qm_w : Nat) (qm_past : Nat) (qm_images : Nat) (qm_text : Nat) (qm_may : Nat) (qm_least : Nat) (qm_isCarried : Nat) (qm_list : Nat) (qm_nodes : Nat) (qm_kept : Nat) (qm_keptLow : Nat) (qm_keptHigh : Nat) (qm_keptNodes : Nat) (qm_numbers : Nat) (qm_sums : Nat) (qm_commands : Nat) (qm_held : Nat) (m_w : (Nat → Int32)) (m_pastMany : Int32) (m_filled : Int32) (m_length : Int32) (m_listMany : Int32) (m_went : Int32) (m_cost : Int32) (m_cause : Int32) (m_looks : Int32) (m_isSent : Int32) (m_isOld : Int32) (m_keptMany : Int32) (m_commandMany : Int32) (p1 : Int32) (r : Int32) (h : f_X6_isNode p1 m_w = some r) : CtI l D cI cZ cN aK aV yX6_isNode (k_W yX6_isNode cX6_isNode 2 (some .boolean)) { frames := 1, cells := 0, slots := 0, locals := 22 } [.ref qm, .int p1] [(qm, .inr (6, [.ref qm_w, .ref qm_past, .int m_pastMany, .ref qm_images, .int m_filled, .ref qm_text, .int m_length, .ref qm_may, .ref qm_least, .ref qm_isCarried, .ref qm_list, .ref qm_nodes, .int m_listMany, .int m_went, .int m_cost, .int m_cause, .int m_looks, .int m_isSent, .int m_isOld, .ref qm_kept, .ref qm_keptLow, .ref qm_keptHigh, .int m_keptMany, .ref qm_keptNodes, .ref qm_numbers, .ref qm_sums, .ref qm_commands, .int m_commandMany, .ref qm_held])), (qm_w, .inl (cI, 93, .inl m_w))] r [(qm, .inr (6, [.ref qm_w, .ref qm_past, .int m_pastMany, .ref qm_images, .int m_filled, .ref qm_text, .int m_length, .ref qm_may, .ref qm_least, .ref qm_isCarried, .ref qm_list, .ref qm_nodes, .int m_listMany, .int m_went, .int m_cost, .int m_cause, .int m_looks, .int m_isSent, .int m_isOld, .ref qm_kept, .ref qm_keptLow, .ref qm_keptHigh, .int m_keptMany, .ref qm_keptNodes, .ref qm_numbers, .ref qm_sums, .ref qm_commands, .int m_commandMany, .ref qm_held])), (qm_w, .inl (cI, 93, .inl m_w))] := by
  refine k_startI (by decide) (Nat.le_of_ble_eq_true rfl) ?_
  intro p e s m below meth c A ls hx hb hr hml hown hts hlocks hT hZ hA hP hD hS hl
  have hK := hT.1
  have hu : ∀ w ∈ k_U, w.before ([.ref qm, .int p1] : List Value).toArray s = true := fun w h => hts w (List.mem_cons_of_mem _ h)
  have hown : s.vm.findClass RX6 = some m.cls := hown
  have hl : lv_has ls 2 [(0, .ref qm), (1, .int p1)] := hl
  unfold f_X6_isNode at h
  refine lv_iload_n hx hb dX6_isNode_0 rfl (lv_at hl 1 rfl) ?_
  refine lv_iconst (v := (0 : Int32)) hx hb dX6_isNode_1 (by decide) ?_
  refine lv_aload_n hx hb dX6_isNode_2 rfl (lv_at hl 0 rfl) ?_
  refine va_get (D := D) (ci := 6) (v := .ref qm_w) (C := RX6) (T := TX6) (N := 29) hx hb hu k_iX6 hown hK hP 0 rfl rfl 0 (by decide) (hu _ u_718) (fun _ h9 => h9) rfl dX6_isNode_3 ?_
  refine lv_iconst (v := (0 : Int32)) hx hb dX6_isNode_6 (by decide) ?_
  refine va_iald (D := D) hx hb hK hP 1 0 rfl rfl (inb_in (by decide)) dX6_isNode_7 ?_
  refine lv_iconst (v := (1 : Int32)) hx hb dX6_isNode_8 (by decide) ?_
  refine lv_isub hx hb dX6_isNode_9 ?_
  refine k_call0 (As := [.int p1, .int (0 : Int32), .int ((m_w (Int32.toNatClampNeg (0 : Int32))) - (1 : Int32))]) (rest := []) ⟨hx, hb, hml, hown, hts⟩ hT hZ hA hP hD hS (c_X6_isIn l D cI cZ cN aK aV p1 (0 : Int32) ((m_w (Int32.toNatClampNeg (0 : Int32))) - (1 : Int32)) _ rfl) ⟨callB_of 3 hts (k_good u_812) rfl rfl rfl (hu _ u_51) (hu _ u_810) (by decide +kernel) ⟨Nat.le_of_ble_eq_true rfl, Nat.le_of_ble_eq_true rfl⟩, hu _ u_811⟩ rfl hl.1 rfl (Nat.le_of_ble_eq_true rfl) dX6_isNode_10 (fun H locs hP hD hS => ?_)
  obtain ⟨hbz, h⟩ := ob_if h
  have hq := Option.some.inj h
  clear h
  subst hq
  exact k_retZ hx hb hr hlocks (isb_or hbz) hP hD hS dX6_isNode_13
def f_X6_isLink (p1 : Int32) (m_w : (Nat → Int32)) : Option (Int32) :=
  if isb (f_X6_isIn p1 (0 : Int32) ((m_w (Int32.toNatClampNeg (1 : Int32))) - (1 : Int32))) = true then
  some ((f_X6_isIn p1 (0 : Int32) ((m_w (Int32.toNatClampNeg (1 : Int32))) - (1 : Int32))))
  else none
set_option maxHeartbeats 4000000 in
set_option maxRecDepth 100000 in
theorem c_X6_isLink (l : Launch) (D : va_G) (cI cZ cN : ClassId) (aK aV : Nat → Nat)  (qm : Nat) (qm_w : Nat) (qm_past : Nat) (qm_images : Nat) (qm_text : Nat) (qm_may : Nat) (qm_least : Nat) (qm_isCarried : Nat) (qm_list : Nat) (qm_nodes : Nat) (qm_kept : Nat) (qm_keptLow : Nat) (qm_keptHigh : Nat) (qm_keptNodes : Nat) (qm_numbers : Nat) (qm_sums : Nat) (qm_commands : Nat) (qm_held : Nat) (m_w : (Nat → Int32)) (m_pastMany : Int32) (m_filled : Int32) (m_length : Int32) (m_listMany : Int32) (m_went : Int32) (m_cost : Int32) (m_cause : Int32) (m_looks : Int32) (m_isSent : Int32) (m_isOld : Int32) (m_keptMany : Int32) (m_commandMany : Int32) (p1 : Int32) (r : Int32) (h : f_X6_isLink p1 m_w = some r) : CtI l D cI cZ cN aK aV yX6_isLink (k_W yX6_isLink cX6_isLink 2 (some .boolean)) { frames := 1, cells := 0, slots := 0, locals := 22 } [.ref qm, .int p1] [(qm, .inr (6, [.ref qm_w, .ref qm_past, .int m_pastMany, .ref qm_images, .int m_filled, .ref qm_text, .int m_length, .ref qm_may, .ref qm_least, .ref qm_isCarried, .ref qm_list, .ref qm_nodes, .int m_listMany, .int m_went, .int m_cost, .int m_cause, .int m_looks, .int m_isSent, .int m_isOld, .ref qm_kept, .ref qm_keptLow, .ref qm_keptHigh, .int m_keptMany, .ref qm_keptNodes, .ref qm_numbers, .ref qm_sums, .ref qm_commands, .int m_commandMany, .ref qm_held])), (qm_w, .inl (cI, 93, .inl m_w))] r [(qm, .inr (6, [.ref qm_w, .ref qm_past, .int m_pastMany, .ref qm_images, .int m_filled, .ref qm_text, .int m_length, .ref qm_may, .ref qm_least, .ref qm_isCarried, .ref qm_list, .ref qm_nodes, .int m_listMany, .int m_went, .int m_cost, .int m_cause, .int m_looks, .int m_isSent, .int m_isOld, .ref qm_kept, .ref qm_keptLow, .ref qm_keptHigh, .int m_keptMany, .ref qm_keptNodes, .ref qm_numbers, .ref qm_sums, .ref qm_commands, .int m_commandMany, .ref qm_held])), (qm_w, .inl (cI, 93, .inl m_w))] := by
  refine k_startI (by decide) (Nat.le_of_ble_eq_true rfl) ?_
  intro p e s m below meth c A ls hx hb hr hml hown hts hlocks hT hZ hA hP hD hS hl
  have hK := hT.1
  have hu : ∀ w ∈ k_U, w.before ([.ref qm, .int p1] : List Value).toArray s = true := fun w h => hts w (List.mem_cons_of_mem _ h)
  have hown : s.vm.findClass RX6 = some m.cls := hown
  have hl : lv_has ls 2 [(0, .ref qm), (1, .int p1)] := hl
  unfold f_X6_isLink at h
  refine lv_iload_n hx hb dX6_isLink_0 rfl (lv_at hl 1 rfl) ?_
  refine lv_iconst (v := (0 : Int32)) hx hb dX6_isLink_1 (by decide) ?_
  refine lv_aload_n hx hb dX6_isLink_2 rfl (lv_at hl 0 rfl) ?_
  refine va_get (D := D) (ci := 6) (v := .ref qm_w) (C := RX6) (T := TX6) (N := 29) hx hb hu k_iX6 hown hK hP 0 rfl rfl 0 (by decide) (hu _ u_718) (fun _ h9 => h9) rfl dX6_isLink_3 ?_
  refine lv_iconst (v := (1 : Int32)) hx hb dX6_isLink_6 (by decide) ?_
  refine va_iald (D := D) hx hb hK hP 1 0 rfl rfl (inb_in (by decide)) dX6_isLink_7 ?_
  refine lv_iconst (v := (1 : Int32)) hx hb dX6_isLink_8 (by decide) ?_
  refine lv_isub hx hb dX6_isLink_9 ?_
  refine k_call0 (As := [.int p1, .int (0 : Int32), .int ((m_w (Int32.toNatClampNeg (1 : Int32))) - (1 : Int32))]) (rest := []) ⟨hx, hb, hml, hown, hts⟩ hT hZ hA hP hD hS (c_X6_isIn l D cI cZ cN aK aV p1 (0 : Int32) ((m_w (Int32.toNatClampNeg (1 : Int32))) - (1 : Int32)) _ rfl) ⟨callB_of 3 hts (k_good u_812) rfl rfl rfl (hu _ u_51) (hu _ u_810) (by decide +kernel) ⟨Nat.le_of_ble_eq_true rfl, Nat.le_of_ble_eq_true rfl⟩, hu _ u_811⟩ rfl hl.1 rfl (Nat.le_of_ble_eq_true rfl) dX6_isLink_10 (fun H locs hP hD hS => ?_)
  obtain ⟨hbz, h⟩ := ob_if h
  have hq := Option.some.inj h
  clear h
  subst hq
  exact k_retZ hx hb hr hlocks (isb_or hbz) hP hD hS dX6_isLink_13
def f_X6_of (p1 : Int32) (p2 : Int32) (m_w : (Nat → Int32)) : Option (Int32) :=
  if inb (((3 : Int32) + ((5 : Int32) * p1)) + p2) 93 = true then
  some ((m_w (Int32.toNatClampNeg (((3 : Int32) + ((5 : Int32) * p1)) + p2))))
  else none
set_option maxHeartbeats 4000000 in
set_option maxRecDepth 100000 in
theorem c_X6_of (l : Launch) (D : va_G) (cI cZ cN : ClassId) (aK aV : Nat → Nat)  (qm : Nat) (qm_w : Nat) (qm_past : Nat) (qm_images : Nat) (qm_text : Nat) (qm_may : Nat) (qm_least : Nat) (qm_isCarried : Nat) (qm_list : Nat) (qm_nodes : Nat) (qm_kept : Nat) (qm_keptLow : Nat) (qm_keptHigh : Nat) (qm_keptNodes : Nat) (qm_numbers : Nat) (qm_sums : Nat) (qm_commands : Nat) (qm_held : Nat) (m_w : (Nat → Int32)) (m_pastMany : Int32) (m_filled : Int32) (m_length : Int32) (m_listMany : Int32) (m_went : Int32) (m_cost : Int32) (m_cause : Int32) (m_looks : Int32) (m_isSent : Int32) (m_isOld : Int32) (m_keptMany : Int32) (m_commandMany : Int32) (p1 p2 : Int32) (r : Int32) (h : f_X6_of p1 p2 m_w = some r) : CtI l D cI cZ cN aK aV yX6_of (k_W yX6_of cX6_of 3 (some .int)) { frames := 0, cells := 0, slots := 0, locals := 0 } [.ref qm, .int p1, .int p2] [(qm, .inr (6, [.ref qm_w, .ref qm_past, .int m_pastMany, .ref qm_images, .int m_filled, .ref qm_text, .int m_length, .ref qm_may, .ref qm_least, .ref qm_isCarried, .ref qm_list, .ref qm_nodes, .int m_listMany, .int m_went, .int m_cost, .int m_cause, .int m_looks, .int m_isSent, .int m_isOld, .ref qm_kept, .ref qm_keptLow, .ref qm_keptHigh, .int m_keptMany, .ref qm_keptNodes, .ref qm_numbers, .ref qm_sums, .ref qm_commands, .int m_commandMany, .ref qm_held])), (qm_w, .inl (cI, 93, .inl m_w))] r [(qm, .inr (6, [.ref qm_w, .ref qm_past, .int m_pastMany, .ref qm_images, .int m_filled, .ref qm_text, .int m_length, .ref qm_may, .ref qm_least, .ref qm_isCarried, .ref qm_list, .ref qm_nodes, .int m_listMany, .int m_went, .int m_cost, .int m_cause, .int m_looks, .int m_isSent, .int m_isOld, .ref qm_kept, .ref qm_keptLow, .ref qm_keptHigh, .int m_keptMany, .ref qm_keptNodes, .ref qm_numbers, .ref qm_sums, .ref qm_commands, .int m_commandMany, .ref qm_held])), (qm_w, .inl (cI, 93, .inl m_w))] := by
  refine k_startI (by decide) (Nat.le_of_ble_eq_true rfl) ?_
  intro p e s m below meth c A ls hx hb hr hml hown hts hlocks hT hZ hA hP hD hS hl
  have hK := hT.1
  have hu : ∀ w ∈ k_U, w.before ([.ref qm, .int p1, .int p2] : List Value).toArray s = true := fun w h => hts w (List.mem_cons_of_mem _ h)
  have hown : s.vm.findClass RX6 = some m.cls := hown
  have hl : lv_has ls 3 [(0, .ref qm), (1, .int p1), (2, .int p2)] := hl
  unfold f_X6_of at h
  refine lv_aload_n hx hb dX6_of_0 rfl (lv_at hl 0 rfl) ?_
  refine va_get (D := D) (ci := 6) (v := .ref qm_w) (C := RX6) (T := TX6) (N := 29) hx hb hu k_iX6 hown hK hP 0 rfl rfl 0 (by decide) (hu _ u_718) (fun _ h9 => h9) rfl dX6_of_1 ?_
  refine lv_iconst (v := (3 : Int32)) hx hb dX6_of_4 (by decide) ?_
  refine lv_iconst (v := (5 : Int32)) hx hb dX6_of_5 (by decide) ?_
  refine lv_iload_n hx hb dX6_of_6 rfl (lv_at hl 1 rfl) ?_
  refine lv_imul hx hb dX6_of_7 ?_
  refine lv_iadd hx hb dX6_of_8 ?_
  refine lv_iload_n hx hb dX6_of_9 rfl (lv_at hl 2 rfl) ?_
  refine lv_iadd hx hb dX6_of_10 ?_
  obtain ⟨hin_1, h⟩ := ob_if h
  have hin_1 := inb_in hin_1
  refine va_iald (D := D) hx hb hK hP 1 0 rfl rfl hin_1 dX6_of_11 ?_
  have hq := Option.some.inj h
  clear h
  subst hq
  exact k_retI hx hb hr hlocks hP hD hS dX6_of_12
def f_X6_record_b51  : Nat → Int32 → (Nat → Int32) → (Nat → Int32) → Int32 → Option ((Nat → Int32) × Int32)
  | 0, _, _, _, _ => none
  | n + 1, x2, m_w, m_past, m_pastMany =>
    if (93 : Int32) ≤ x2 then
      some (m_past, (m_pastMany + (1 : Int32)))
    else
      if inb x2 93 = true then
      if inb (((93 : Int32) * m_pastMany) + x2) 744 = true then
      (f_X6_record_b51 n) (x2 + (1 : Int32)) m_w (upd m_past (Int32.toNatClampNeg (((93 : Int32) * m_pastMany) + x2)) (m_w (Int32.toNatClampNeg x2))) m_pastMany
      else none
      else none
def f_X6_record_b11  : Nat → Int32 → (Nat → Int32) → (Nat → Int32) → Int32 → Option ((Nat → Int32) × Int32)
  | 0, _, _, _, _ => none
  | n + 1, x2, m_w, m_past, m_pastMany =>
    if (651 : Int32) ≤ x2 then
      f_X6_record_b51 1000 (0 : Int32) m_w m_past (m_pastMany - (1 : Int32))
    else
      if inb (x2 + (93 : Int32)) 744 = true then
      if inb x2 744 = true then
      (f_X6_record_b11 n) (x2 + (1 : Int32)) m_w (upd m_past (Int32.toNatClampNeg x2) (m_past (Int32.toNatClampNeg (x2 + (93 : Int32))))) m_pastMany
      else none
      else none
def f_X6_record (m_w : (Nat → Int32)) (m_past : (Nat → Int32)) (m_pastMany : Int32) : Option ((Nat → Int32) × Int32) :=
  if m_pastMany = (8 : Int32) then
    f_X6_record_b11 1000 (0 : Int32) m_w m_past m_pastMany
  else
    f_X6_record_b51 1000 (0 : Int32) m_w m_past m_pastMany
set_option maxHeartbeats 4000000 in
set_option maxRecDepth 100000 in
theorem c_X6_record (l : Launch) (D : va_G) (cI cZ cN : ClassId) (aK aV : Nat → Nat)  (qm : Nat) (qm_w : Nat) (qm_past : Nat) (qm_images : Nat) (qm_text : Nat) (qm_may : Nat) (qm_least : Nat) (qm_isCarried : Nat) (qm_list : Nat) (qm_nodes : Nat) (qm_kept : Nat) (qm_keptLow : Nat) (qm_keptHigh : Nat) (qm_keptNodes : Nat) (qm_numbers : Nat) (qm_sums : Nat) (qm_commands : Nat) (qm_held : Nat) (m_w : (Nat → Int32)) (m_past : (Nat → Int32)) (m_pastMany : Int32) (m_filled : Int32) (m_length : Int32) (m_listMany : Int32) (m_went : Int32) (m_cost : Int32) (m_cause : Int32) (m_looks : Int32) (m_isSent : Int32) (m_isOld : Int32) (m_keptMany : Int32) (m_commandMany : Int32) (z_m_past : (Nat → Int32)) (z_m_pastMany : Int32) (h : f_X6_record m_w m_past m_pastMany = some (z_m_past, z_m_pastMany)) : CtV l D cI cZ cN aK aV yX6_record (k_W yX6_record cX6_record 3 none) { frames := 0, cells := 0, slots := 0, locals := 0 } [.ref qm, .ref qm_w] [(qm, .inr (6, [.ref qm_w, .ref qm_past, .int m_pastMany, .ref qm_images, .int m_filled, .ref qm_text, .int m_length, .ref qm_may, .ref qm_least, .ref qm_isCarried, .ref qm_list, .ref qm_nodes, .int m_listMany, .int m_went, .int m_cost, .int m_cause, .int m_looks, .int m_isSent, .int m_isOld, .ref qm_kept, .ref qm_keptLow, .ref qm_keptHigh, .int m_keptMany, .ref qm_keptNodes, .ref qm_numbers, .ref qm_sums, .ref qm_commands, .int m_commandMany, .ref qm_held])), (qm_w, .inl (cI, 93, .inl m_w)), (qm_past, .inl (cI, 744, .inl m_past))] [(qm, .inr (6, [.ref qm_w, .ref qm_past, .int z_m_pastMany, .ref qm_images, .int m_filled, .ref qm_text, .int m_length, .ref qm_may, .ref qm_least, .ref qm_isCarried, .ref qm_list, .ref qm_nodes, .int m_listMany, .int m_went, .int m_cost, .int m_cause, .int m_looks, .int m_isSent, .int m_isOld, .ref qm_kept, .ref qm_keptLow, .ref qm_keptHigh, .int m_keptMany, .ref qm_keptNodes, .ref qm_numbers, .ref qm_sums, .ref qm_commands, .int m_commandMany, .ref qm_held])), (qm_w, .inl (cI, 93, .inl m_w)), (qm_past, .inl (cI, 744, .inl z_m_past))] := by
  refine k_startV (by decide) (Nat.le_of_ble_eq_true rfl) ?_
  intro p e s m below meth c A ls hx hb hr hml hown hts hlocks hT hZ hA hP hD hS hl
  have hK := hT.1
  have hu : ∀ w ∈ k_U, w.before ([.ref qm, .ref qm_w] : List Value).toArray s = true := fun w h => hts w (List.mem_cons_of_mem _ h)
  have hown : s.vm.findClass RX6 = some m.cls := hown
  have hl : lv_has ls 3 [(0, .ref qm), (1, .ref qm_w)] := hl
  unfold f_X6_record at h
  have w51 : ∀ (n51 : Nat) (x2 : Int32) (m_w : (Nat → Int32)) (m_past : (Nat → Int32)) (m_pastMany : Int32) (H : Heap) (locs : List Loc) (ls : Array Slot), va_P D vwCl [(qm, .inr (6, [.ref qm_w, .ref qm_past, .int m_pastMany, .ref qm_images, .int m_filled, .ref qm_text, .int m_length, .ref qm_may, .ref qm_least, .ref qm_isCarried, .ref qm_list, .ref qm_nodes, .int m_listMany, .int m_went, .int m_cost, .int m_cause, .int m_looks, .int m_isSent, .int m_isOld, .ref qm_kept, .ref qm_keptLow, .ref qm_keptHigh, .int m_keptMany, .ref qm_keptNodes, .ref qm_numbers, .ref qm_sums, .ref qm_commands, .int m_commandMany, .ref qm_held])), (qm_w, .inl (cI, 93, .inl m_w)), (qm_past, .inl (cI, 744, .inl m_past))] H → va_D A [(qm, .inr (6, [.ref qm_w, .ref qm_past, .int m_pastMany, .ref qm_images, .int m_filled, .ref qm_text, .int m_length, .ref qm_may, .ref qm_least, .ref qm_isCarried, .ref qm_list, .ref qm_nodes, .int m_listMany, .int m_went, .int m_cost, .int m_cause, .int m_looks, .int m_isSent, .int m_isOld, .ref qm_kept, .ref qm_keptLow, .ref qm_keptHigh, .int m_keptMany, .ref qm_keptNodes, .ref qm_numbers, .ref qm_sums, .ref qm_commands, .int m_commandMany, .ref qm_held])), (qm_w, .inl (cI, 93, .inl m_w)), (qm_past, .inl (cI, 744, .inl m_past))] → va_S A s.heap H locs → lv_has ls 3 [(0, .ref qm), (1, .ref qm_w), (2, .int x2)] → f_X6_record_b51 n51 x2 m_w m_past m_pastMany = some (z_m_past, z_m_pastMany) → W p l e { frames := 0, cells := 0, slots := 0, locals := 0 } s m ([.ref qm, .ref qm_w] : List Value).toArray below meth c H locs 0 0 (MQ below (k_QV D [(qm, .inr (6, [.ref qm_w, .ref qm_past, .int z_m_pastMany, .ref qm_images, .int m_filled, .ref qm_text, .int m_length, .ref qm_may, .ref qm_least, .ref qm_isCarried, .ref qm_list, .ref qm_nodes, .int m_listMany, .int m_went, .int m_cost, .int m_cause, .int m_looks, .int m_isSent, .int m_isOld, .ref qm_kept, .ref qm_keptLow, .ref qm_keptHigh, .int m_keptMany, .ref qm_keptNodes, .ref qm_numbers, .ref qm_sums, .ref qm_commands, .int m_commandMany, .ref qm_held])), (qm_w, .inl (cI, 93, .inl m_w)), (qm_past, .inl (cI, 744, .inl z_m_past))] A) ([.ref qm, .ref qm_w] : List Value).toArray s 0 0 A) (F0 m 51 ls []) := by
    intro n51
    induction n51 with
    | zero =>
      intro x2 m_w m_past m_pastMany H locs ls hP hD hS hl h
      rw [f_X6_record_b51] at h
      cases h
    | succ n51 ih51 =>
      intro x2 m_w m_past m_pastMany H locs ls hP hD hS hl h
      rw [f_X6_record_b51] at h
      refine lv_iload_n hx hb dX6_record_51 rfl (lv_at hl 2 rfl) ?_
      refine lv_bipush (v := (93 : Int32)) hx hb dX6_record_52 (by decide) ?_
      refine lv_icmp_ge (tgt := 80) hx hb dX6_record_54 (by decide) (fun cc_5 => ?_) (fun cc_5 => ?_)
      · have h := (if_pos cc_5).symm.trans h
        refine lv_aload_n hx hb dX6_record_80 rfl (lv_at hl 0 rfl) ?_
        refine lv_dup hx hb dX6_record_81 rfl ?_
        refine va_get (D := D) (ci := 6) (v := .int m_pastMany) (C := RX6) (T := TX6) (N := 29) hx hb hu k_iX6 hown hK hP 0 rfl rfl 2 (by decide) (hu _ u_720) (fun _ h9 => h9) rfl dX6_record_82 ?_
        refine lv_iconst (v := (1 : Int32)) hx hb dX6_record_85 (by decide) ?_
        refine lv_iadd hx hb dX6_record_86 ?_
        refine va_put (D := D) (ci := 6) (v := .int (m_pastMany + (1 : Int32))) (ty := .int) (C := RX6) (T := TX6) (N := 29) hx hb hu k_iX6 tyX6 tyX6_ok nmX6 hown hK hP hD hS 0 rfl rfl 2 (by decide) (hu _ u_720) (fun _ h9 => h9) rfl (by decide +kernel) rfl rfl (Nat.le_of_ble_eq_true rfl) dX6_record_87 (fun H locs hP hD hS => ?_)
        have hP : va_P D vwCl [(qm, .inr (6, [.ref qm_w, .ref qm_past, .int (m_pastMany + (1 : Int32)), .ref qm_images, .int m_filled, .ref qm_text, .int m_length, .ref qm_may, .ref qm_least, .ref qm_isCarried, .ref qm_list, .ref qm_nodes, .int m_listMany, .int m_went, .int m_cost, .int m_cause, .int m_looks, .int m_isSent, .int m_isOld, .ref qm_kept, .ref qm_keptLow, .ref qm_keptHigh, .int m_keptMany, .ref qm_keptNodes, .ref qm_numbers, .ref qm_sums, .ref qm_commands, .int m_commandMany, .ref qm_held])), (qm_w, .inl (cI, 93, .inl m_w)), (qm_past, .inl (cI, 744, .inl m_past))] H := hP
        have hD : va_D A [(qm, .inr (6, [.ref qm_w, .ref qm_past, .int (m_pastMany + (1 : Int32)), .ref qm_images, .int m_filled, .ref qm_text, .int m_length, .ref qm_may, .ref qm_least, .ref qm_isCarried, .ref qm_list, .ref qm_nodes, .int m_listMany, .int m_went, .int m_cost, .int m_cause, .int m_looks, .int m_isSent, .int m_isOld, .ref qm_kept, .ref qm_keptLow, .ref qm_keptHigh, .int m_keptMany, .ref qm_keptNodes, .ref qm_numbers, .ref qm_sums, .ref qm_commands, .int m_commandMany, .ref qm_held])), (qm_w, .inl (cI, 93, .inl m_w)), (qm_past, .inl (cI, 744, .inl m_past))] := hD
        have hq := Option.some.inj h
        clear h
        obtain ⟨e0, hq0⟩ := Prod.mk.inj hq
        clear hq
        subst e0
        subst hq0
        exact k_retV hx hb hr hlocks hP hD hS dX6_record_90
      · have h := (if_neg cc_5).symm.trans h
        refine lv_aload_n hx hb dX6_record_57 rfl (lv_at hl 0 rfl) ?_
        refine va_get (D := D) (ci := 6) (v := .ref qm_past) (C := RX6) (T := TX6) (N := 29) hx hb hu k_iX6 hown hK hP 0 rfl rfl 1 (by decide) (hu _ u_719) (fun _ h9 => h9) rfl dX6_record_58 ?_
        refine lv_bipush (v := (93 : Int32)) hx hb dX6_record_61 (by decide) ?_
        refine lv_aload_n hx hb dX6_record_63 rfl (lv_at hl 0 rfl) ?_
        refine va_get (D := D) (ci := 6) (v := .int m_pastMany) (C := RX6) (T := TX6) (N := 29) hx hb hu k_iX6 hown hK hP 0 rfl rfl 2 (by decide) (hu _ u_720) (fun _ h9 => h9) rfl dX6_record_64 ?_
        refine lv_imul hx hb dX6_record_67 ?_
        refine lv_iload_n hx hb dX6_record_68 rfl (lv_at hl 2 rfl) ?_
        refine lv_iadd hx hb dX6_record_69 ?_
        refine lv_aload_n hx hb dX6_record_70 rfl (lv_at hl 1 rfl) ?_
        refine lv_iload_n hx hb dX6_record_71 rfl (lv_at hl 2 rfl) ?_
        obtain ⟨hin_6, h⟩ := ob_if h
        have hin_6 := inb_in hin_6
        refine va_iald (D := D) hx hb hK hP 1 0 rfl rfl hin_6 dX6_record_72 ?_
        obtain ⟨hin_7, h⟩ := ob_if h
        have hin_7 := inb_in hin_7
        refine va_iast (D := D) hx hb hK hP hD hS 2 0 rfl rfl hin_7 dX6_record_73 (fun H locs hP hD hS => ?_)
        have hP : va_P D vwCl [(qm, .inr (6, [.ref qm_w, .ref qm_past, .int m_pastMany, .ref qm_images, .int m_filled, .ref qm_text, .int m_length, .ref qm_may, .ref qm_least, .ref qm_isCarried, .ref qm_list, .ref qm_nodes, .int m_listMany, .int m_went, .int m_cost, .int m_cause, .int m_looks, .int m_isSent, .int m_isOld, .ref qm_kept, .ref qm_keptLow, .ref qm_keptHigh, .int m_keptMany, .ref qm_keptNodes, .ref qm_numbers, .ref qm_sums, .ref qm_commands, .int m_commandMany, .ref qm_held])), (qm_w, .inl (cI, 93, .inl m_w)), (qm_past, .inl (cI, 744, .inl (upd m_past (Int32.toNatClampNeg (((93 : Int32) * m_pastMany) + x2)) (m_w (Int32.toNatClampNeg x2)))))] H := hP
        have hD : va_D A [(qm, .inr (6, [.ref qm_w, .ref qm_past, .int m_pastMany, .ref qm_images, .int m_filled, .ref qm_text, .int m_length, .ref qm_may, .ref qm_least, .ref qm_isCarried, .ref qm_list, .ref qm_nodes, .int m_listMany, .int m_went, .int m_cost, .int m_cause, .int m_looks, .int m_isSent, .int m_isOld, .ref qm_kept, .ref qm_keptLow, .ref qm_keptHigh, .int m_keptMany, .ref qm_keptNodes, .ref qm_numbers, .ref qm_sums, .ref qm_commands, .int m_commandMany, .ref qm_held])), (qm_w, .inl (cI, 93, .inl m_w)), (qm_past, .inl (cI, 744, .inl (upd m_past (Int32.toNatClampNeg (((93 : Int32) * m_pastMany) + x2)) (m_w (Int32.toNatClampNeg x2)))))] := hD
        refine lv_iinc (v := (x2 + (1 : Int32))) (lv' := [(2, .int (x2 + (1 : Int32))), (0, .ref qm), (1, .ref qm_w)]) hx hb dX6_record_74 hl (k := 2) rfl rfl (by decide) rfl (fun ls hl => ?_)
        refine lv_goto (tgt := 51) hx hb dX6_record_77 (by decide) ?_
        exact ih51 (x2 + (1 : Int32)) m_w (upd m_past (Int32.toNatClampNeg (((93 : Int32) * m_pastMany) + x2)) (m_w (Int32.toNatClampNeg x2))) m_pastMany _ _ _ hP hD hS (lv_sub hl [1, 2, 0] rfl) h
  have w11 : ∀ (n11 : Nat) (x2 : Int32) (m_w : (Nat → Int32)) (m_past : (Nat → Int32)) (m_pastMany : Int32) (H : Heap) (locs : List Loc) (ls : Array Slot), va_P D vwCl [(qm, .inr (6, [.ref qm_w, .ref qm_past, .int m_pastMany, .ref qm_images, .int m_filled, .ref qm_text, .int m_length, .ref qm_may, .ref qm_least, .ref qm_isCarried, .ref qm_list, .ref qm_nodes, .int m_listMany, .int m_went, .int m_cost, .int m_cause, .int m_looks, .int m_isSent, .int m_isOld, .ref qm_kept, .ref qm_keptLow, .ref qm_keptHigh, .int m_keptMany, .ref qm_keptNodes, .ref qm_numbers, .ref qm_sums, .ref qm_commands, .int m_commandMany, .ref qm_held])), (qm_w, .inl (cI, 93, .inl m_w)), (qm_past, .inl (cI, 744, .inl m_past))] H → va_D A [(qm, .inr (6, [.ref qm_w, .ref qm_past, .int m_pastMany, .ref qm_images, .int m_filled, .ref qm_text, .int m_length, .ref qm_may, .ref qm_least, .ref qm_isCarried, .ref qm_list, .ref qm_nodes, .int m_listMany, .int m_went, .int m_cost, .int m_cause, .int m_looks, .int m_isSent, .int m_isOld, .ref qm_kept, .ref qm_keptLow, .ref qm_keptHigh, .int m_keptMany, .ref qm_keptNodes, .ref qm_numbers, .ref qm_sums, .ref qm_commands, .int m_commandMany, .ref qm_held])), (qm_w, .inl (cI, 93, .inl m_w)), (qm_past, .inl (cI, 744, .inl m_past))] → va_S A s.heap H locs → lv_has ls 3 [(0, .ref qm), (1, .ref qm_w), (2, .int x2)] → f_X6_record_b11 n11 x2 m_w m_past m_pastMany = some (z_m_past, z_m_pastMany) → W p l e { frames := 0, cells := 0, slots := 0, locals := 0 } s m ([.ref qm, .ref qm_w] : List Value).toArray below meth c H locs 0 0 (MQ below (k_QV D [(qm, .inr (6, [.ref qm_w, .ref qm_past, .int z_m_pastMany, .ref qm_images, .int m_filled, .ref qm_text, .int m_length, .ref qm_may, .ref qm_least, .ref qm_isCarried, .ref qm_list, .ref qm_nodes, .int m_listMany, .int m_went, .int m_cost, .int m_cause, .int m_looks, .int m_isSent, .int m_isOld, .ref qm_kept, .ref qm_keptLow, .ref qm_keptHigh, .int m_keptMany, .ref qm_keptNodes, .ref qm_numbers, .ref qm_sums, .ref qm_commands, .int m_commandMany, .ref qm_held])), (qm_w, .inl (cI, 93, .inl m_w)), (qm_past, .inl (cI, 744, .inl z_m_past))] A) ([.ref qm, .ref qm_w] : List Value).toArray s 0 0 A) (F0 m 11 ls []) := by
    intro n11
    induction n11 with
    | zero =>
      intro x2 m_w m_past m_pastMany H locs ls hP hD hS hl h
      rw [f_X6_record_b11] at h
      cases h
    | succ n11 ih11 =>
      intro x2 m_w m_past m_pastMany H locs ls hP hD hS hl h
      rw [f_X6_record_b11] at h
      refine lv_iload_n hx hb dX6_record_11 rfl (lv_at hl 2 rfl) ?_
      refine lv_sipush (v := (651 : Int32)) hx hb dX6_record_12 (by decide) ?_
      refine lv_icmp_ge (tgt := 39) hx hb dX6_record_15 (by decide) (fun cc_2 => ?_) (fun cc_2 => ?_)
      · have h := (if_pos cc_2).symm.trans h
        refine lv_aload_n hx hb dX6_record_39 rfl (lv_at hl 0 rfl) ?_
        refine lv_dup hx hb dX6_record_40 rfl ?_
        refine va_get (D := D) (ci := 6) (v := .int m_pastMany) (C := RX6) (T := TX6) (N := 29) hx hb hu k_iX6 hown hK hP 0 rfl rfl 2 (by decide) (hu _ u_720) (fun _ h9 => h9) rfl dX6_record_41 ?_
        refine lv_iconst (v := (1 : Int32)) hx hb dX6_record_44 (by decide) ?_
        refine lv_isub hx hb dX6_record_45 ?_
        refine va_put (D := D) (ci := 6) (v := .int (m_pastMany - (1 : Int32))) (ty := .int) (C := RX6) (T := TX6) (N := 29) hx hb hu k_iX6 tyX6 tyX6_ok nmX6 hown hK hP hD hS 0 rfl rfl 2 (by decide) (hu _ u_720) (fun _ h9 => h9) rfl (by decide +kernel) rfl rfl (Nat.le_of_ble_eq_true rfl) dX6_record_46 (fun H locs hP hD hS => ?_)
        have hP : va_P D vwCl [(qm, .inr (6, [.ref qm_w, .ref qm_past, .int (m_pastMany - (1 : Int32)), .ref qm_images, .int m_filled, .ref qm_text, .int m_length, .ref qm_may, .ref qm_least, .ref qm_isCarried, .ref qm_list, .ref qm_nodes, .int m_listMany, .int m_went, .int m_cost, .int m_cause, .int m_looks, .int m_isSent, .int m_isOld, .ref qm_kept, .ref qm_keptLow, .ref qm_keptHigh, .int m_keptMany, .ref qm_keptNodes, .ref qm_numbers, .ref qm_sums, .ref qm_commands, .int m_commandMany, .ref qm_held])), (qm_w, .inl (cI, 93, .inl m_w)), (qm_past, .inl (cI, 744, .inl m_past))] H := hP
        have hD : va_D A [(qm, .inr (6, [.ref qm_w, .ref qm_past, .int (m_pastMany - (1 : Int32)), .ref qm_images, .int m_filled, .ref qm_text, .int m_length, .ref qm_may, .ref qm_least, .ref qm_isCarried, .ref qm_list, .ref qm_nodes, .int m_listMany, .int m_went, .int m_cost, .int m_cause, .int m_looks, .int m_isSent, .int m_isOld, .ref qm_kept, .ref qm_keptLow, .ref qm_keptHigh, .int m_keptMany, .ref qm_keptNodes, .ref qm_numbers, .ref qm_sums, .ref qm_commands, .int m_commandMany, .ref qm_held])), (qm_w, .inl (cI, 93, .inl m_w)), (qm_past, .inl (cI, 744, .inl m_past))] := hD
        refine lv_iconst (v := (0 : Int32)) hx hb dX6_record_49 (by decide) ?_
        refine lv_istore_n (lv' := [(2, .int (0 : Int32)), (0, .ref qm), (1, .ref qm_w)]) hx hb dX6_record_50 rfl hl (by decide) rfl (fun ls hl => ?_)
        exact w51 1000 (0 : Int32) m_w m_past (m_pastMany - (1 : Int32)) _ _ _ hP hD hS (lv_sub hl [1, 2, 0] rfl) h
      · have h := (if_neg cc_2).symm.trans h
        refine lv_aload_n hx hb dX6_record_18 rfl (lv_at hl 0 rfl) ?_
        refine va_get (D := D) (ci := 6) (v := .ref qm_past) (C := RX6) (T := TX6) (N := 29) hx hb hu k_iX6 hown hK hP 0 rfl rfl 1 (by decide) (hu _ u_719) (fun _ h9 => h9) rfl dX6_record_19 ?_
        refine lv_iload_n hx hb dX6_record_22 rfl (lv_at hl 2 rfl) ?_
        refine lv_aload_n hx hb dX6_record_23 rfl (lv_at hl 0 rfl) ?_
        refine va_get (D := D) (ci := 6) (v := .ref qm_past) (C := RX6) (T := TX6) (N := 29) hx hb hu k_iX6 hown hK hP 0 rfl rfl 1 (by decide) (hu _ u_719) (fun _ h9 => h9) rfl dX6_record_24 ?_
        refine lv_iload_n hx hb dX6_record_27 rfl (lv_at hl 2 rfl) ?_
        refine lv_bipush (v := (93 : Int32)) hx hb dX6_record_28 (by decide) ?_
        refine lv_iadd hx hb dX6_record_30 ?_
        obtain ⟨hin_3, h⟩ := ob_if h
        have hin_3 := inb_in hin_3
        refine va_iald (D := D) hx hb hK hP 2 0 rfl rfl hin_3 dX6_record_31 ?_
        obtain ⟨hin_4, h⟩ := ob_if h
        have hin_4 := inb_in hin_4
        refine va_iast (D := D) hx hb hK hP hD hS 2 0 rfl rfl hin_4 dX6_record_32 (fun H locs hP hD hS => ?_)
        have hP : va_P D vwCl [(qm, .inr (6, [.ref qm_w, .ref qm_past, .int m_pastMany, .ref qm_images, .int m_filled, .ref qm_text, .int m_length, .ref qm_may, .ref qm_least, .ref qm_isCarried, .ref qm_list, .ref qm_nodes, .int m_listMany, .int m_went, .int m_cost, .int m_cause, .int m_looks, .int m_isSent, .int m_isOld, .ref qm_kept, .ref qm_keptLow, .ref qm_keptHigh, .int m_keptMany, .ref qm_keptNodes, .ref qm_numbers, .ref qm_sums, .ref qm_commands, .int m_commandMany, .ref qm_held])), (qm_w, .inl (cI, 93, .inl m_w)), (qm_past, .inl (cI, 744, .inl (upd m_past (Int32.toNatClampNeg x2) (m_past (Int32.toNatClampNeg (x2 + (93 : Int32)))))))] H := hP
        have hD : va_D A [(qm, .inr (6, [.ref qm_w, .ref qm_past, .int m_pastMany, .ref qm_images, .int m_filled, .ref qm_text, .int m_length, .ref qm_may, .ref qm_least, .ref qm_isCarried, .ref qm_list, .ref qm_nodes, .int m_listMany, .int m_went, .int m_cost, .int m_cause, .int m_looks, .int m_isSent, .int m_isOld, .ref qm_kept, .ref qm_keptLow, .ref qm_keptHigh, .int m_keptMany, .ref qm_keptNodes, .ref qm_numbers, .ref qm_sums, .ref qm_commands, .int m_commandMany, .ref qm_held])), (qm_w, .inl (cI, 93, .inl m_w)), (qm_past, .inl (cI, 744, .inl (upd m_past (Int32.toNatClampNeg x2) (m_past (Int32.toNatClampNeg (x2 + (93 : Int32)))))))] := hD
        refine lv_iinc (v := (x2 + (1 : Int32))) (lv' := [(2, .int (x2 + (1 : Int32))), (0, .ref qm), (1, .ref qm_w)]) hx hb dX6_record_33 hl (k := 2) rfl rfl (by decide) rfl (fun ls hl => ?_)
        refine lv_goto (tgt := 11) hx hb dX6_record_36 (by decide) ?_
        exact ih11 (x2 + (1 : Int32)) m_w (upd m_past (Int32.toNatClampNeg x2) (m_past (Int32.toNatClampNeg (x2 + (93 : Int32))))) m_pastMany _ _ _ hP hD hS (lv_sub hl [1, 2, 0] rfl) h
  refine lv_aload_n hx hb dX6_record_0 rfl (lv_at hl 0 rfl) ?_
  refine va_get (D := D) (ci := 6) (v := .int m_pastMany) (C := RX6) (T := TX6) (N := 29) hx hb hu k_iX6 hown hK hP 0 rfl rfl 2 (by decide) (hu _ u_720) (fun _ h9 => h9) rfl dX6_record_1 ?_
  refine lv_bipush (v := (8 : Int32)) hx hb dX6_record_4 (by decide) ?_
  refine lv_icmp_ne (tgt := 49) hx hb dX6_record_6 (by decide) (fun cc_1 => ?_) (fun cc_1 => ?_)
  · have h := (if_neg cc_1).symm.trans h
    refine lv_iconst (v := (0 : Int32)) hx hb dX6_record_49 (by decide) ?_
    refine lv_istore_n (lv' := [(2, .int (0 : Int32)), (0, .ref qm), (1, .ref qm_w)]) hx hb dX6_record_50 rfl hl (by decide) rfl (fun ls hl => ?_)
    exact w51 1000 (0 : Int32) m_w m_past m_pastMany _ _ _ hP hD hS (lv_sub hl [1, 2, 0] rfl) h
  · have h := (if_pos cc_1).symm.trans h
    refine lv_iconst (v := (0 : Int32)) hx hb dX6_record_9 (by decide) ?_
    refine lv_istore_n (lv' := [(2, .int (0 : Int32)), (0, .ref qm), (1, .ref qm_w)]) hx hb dX6_record_10 rfl hl (by decide) rfl (fun ls hl => ?_)
    exact w11 1000 (0 : Int32) m_w m_past m_pastMany _ _ _ hP hD hS (lv_sub hl [1, 2, 0] rfl) h
def f_X6_recordH_b51  : Nat → Int32 → (Nat → Int32) → Int32 → (Nat → Int32) → Option ((Nat → Int32) × Int32)
  | 0, _, _, _, _ => none
  | n + 1, x2, m_past, m_pastMany, m_held =>
    if (93 : Int32) ≤ x2 then
      some (m_past, (m_pastMany + (1 : Int32)))
    else
      if inb x2 93 = true then
      if inb (((93 : Int32) * m_pastMany) + x2) 744 = true then
      (f_X6_recordH_b51 n) (x2 + (1 : Int32)) (upd m_past (Int32.toNatClampNeg (((93 : Int32) * m_pastMany) + x2)) (m_held (Int32.toNatClampNeg x2))) m_pastMany m_held
      else none
      else none
def f_X6_recordH_b11  : Nat → Int32 → (Nat → Int32) → Int32 → (Nat → Int32) → Option ((Nat → Int32) × Int32)
  | 0, _, _, _, _ => none
  | n + 1, x2, m_past, m_pastMany, m_held =>
    if (651 : Int32) ≤ x2 then
      f_X6_recordH_b51 1000 (0 : Int32) m_past (m_pastMany - (1 : Int32)) m_held
    else
      if inb (x2 + (93 : Int32)) 744 = true then
      if inb x2 744 = true then
      (f_X6_recordH_b11 n) (x2 + (1 : Int32)) (upd m_past (Int32.toNatClampNeg x2) (m_past (Int32.toNatClampNeg (x2 + (93 : Int32))))) m_pastMany m_held
      else none
      else none
def f_X6_recordH (m_past : (Nat → Int32)) (m_pastMany : Int32) (m_held : (Nat → Int32)) : Option ((Nat → Int32) × Int32) :=
  if m_pastMany = (8 : Int32) then
    f_X6_recordH_b11 1000 (0 : Int32) m_past m_pastMany m_held
  else
    f_X6_recordH_b51 1000 (0 : Int32) m_past m_pastMany m_held
set_option maxHeartbeats 4000000 in
set_option maxRecDepth 100000 in
theorem c_X6_recordH (l : Launch) (D : va_G) (cI cZ cN : ClassId) (aK aV : Nat → Nat)  (qm : Nat) (qm_w : Nat) (qm_past : Nat) (qm_images : Nat) (qm_text : Nat) (qm_may : Nat) (qm_least : Nat) (qm_isCarried : Nat) (qm_list : Nat) (qm_nodes : Nat) (qm_kept : Nat) (qm_keptLow : Nat) (qm_keptHigh : Nat) (qm_keptNodes : Nat) (qm_numbers : Nat) (qm_sums : Nat) (qm_commands : Nat) (qm_held : Nat) (m_past : (Nat → Int32)) (m_pastMany : Int32) (m_filled : Int32) (m_length : Int32) (m_listMany : Int32) (m_went : Int32) (m_cost : Int32) (m_cause : Int32) (m_looks : Int32) (m_isSent : Int32) (m_isOld : Int32) (m_keptMany : Int32) (m_commandMany : Int32) (m_held : (Nat → Int32)) (z_m_past : (Nat → Int32)) (z_m_pastMany : Int32) (h : f_X6_recordH m_past m_pastMany m_held = some (z_m_past, z_m_pastMany)) : CtV l D cI cZ cN aK aV yX6_record (k_W yX6_record cX6_record 3 none) { frames := 0, cells := 0, slots := 0, locals := 0 } [.ref qm, .ref qm_held] [(qm, .inr (6, [.ref qm_w, .ref qm_past, .int m_pastMany, .ref qm_images, .int m_filled, .ref qm_text, .int m_length, .ref qm_may, .ref qm_least, .ref qm_isCarried, .ref qm_list, .ref qm_nodes, .int m_listMany, .int m_went, .int m_cost, .int m_cause, .int m_looks, .int m_isSent, .int m_isOld, .ref qm_kept, .ref qm_keptLow, .ref qm_keptHigh, .int m_keptMany, .ref qm_keptNodes, .ref qm_numbers, .ref qm_sums, .ref qm_commands, .int m_commandMany, .ref qm_held])), (qm_past, .inl (cI, 744, .inl m_past)), (qm_held, .inl (cI, 93, .inl m_held))] [(qm, .inr (6, [.ref qm_w, .ref qm_past, .int z_m_pastMany, .ref qm_images, .int m_filled, .ref qm_text, .int m_length, .ref qm_may, .ref qm_least, .ref qm_isCarried, .ref qm_list, .ref qm_nodes, .int m_listMany, .int m_went, .int m_cost, .int m_cause, .int m_looks, .int m_isSent, .int m_isOld, .ref qm_kept, .ref qm_keptLow, .ref qm_keptHigh, .int m_keptMany, .ref qm_keptNodes, .ref qm_numbers, .ref qm_sums, .ref qm_commands, .int m_commandMany, .ref qm_held])), (qm_past, .inl (cI, 744, .inl z_m_past)), (qm_held, .inl (cI, 93, .inl m_held))] := by
  refine k_startV (by decide) (Nat.le_of_ble_eq_true rfl) ?_
  intro p e s m below meth c A ls hx hb hr hml hown hts hlocks hT hZ hA hP hD hS hl
  have hK := hT.1
  have hu : ∀ w ∈ k_U, w.before ([.ref qm, .ref qm_held] : List Value).toArray s = true := fun w h => hts w (List.mem_cons_of_mem _ h)
  have hown : s.vm.findClass RX6 = some m.cls := hown
  have hl : lv_has ls 3 [(0, .ref qm), (1, .ref qm_held)] := hl
  unfold f_X6_recordH at h
  have w51 : ∀ (n51 : Nat) (x2 : Int32) (m_past : (Nat → Int32)) (m_pastMany : Int32) (m_held : (Nat → Int32)) (H : Heap) (locs : List Loc) (ls : Array Slot), va_P D vwCl [(qm, .inr (6, [.ref qm_w, .ref qm_past, .int m_pastMany, .ref qm_images, .int m_filled, .ref qm_text, .int m_length, .ref qm_may, .ref qm_least, .ref qm_isCarried, .ref qm_list, .ref qm_nodes, .int m_listMany, .int m_went, .int m_cost, .int m_cause, .int m_looks, .int m_isSent, .int m_isOld, .ref qm_kept, .ref qm_keptLow, .ref qm_keptHigh, .int m_keptMany, .ref qm_keptNodes, .ref qm_numbers, .ref qm_sums, .ref qm_commands, .int m_commandMany, .ref qm_held])), (qm_past, .inl (cI, 744, .inl m_past)), (qm_held, .inl (cI, 93, .inl m_held))] H → va_D A [(qm, .inr (6, [.ref qm_w, .ref qm_past, .int m_pastMany, .ref qm_images, .int m_filled, .ref qm_text, .int m_length, .ref qm_may, .ref qm_least, .ref qm_isCarried, .ref qm_list, .ref qm_nodes, .int m_listMany, .int m_went, .int m_cost, .int m_cause, .int m_looks, .int m_isSent, .int m_isOld, .ref qm_kept, .ref qm_keptLow, .ref qm_keptHigh, .int m_keptMany, .ref qm_keptNodes, .ref qm_numbers, .ref qm_sums, .ref qm_commands, .int m_commandMany, .ref qm_held])), (qm_past, .inl (cI, 744, .inl m_past)), (qm_held, .inl (cI, 93, .inl m_held))] → va_S A s.heap H locs → lv_has ls 3 [(0, .ref qm), (1, .ref qm_held), (2, .int x2)] → f_X6_recordH_b51 n51 x2 m_past m_pastMany m_held = some (z_m_past, z_m_pastMany) → W p l e { frames := 0, cells := 0, slots := 0, locals := 0 } s m ([.ref qm, .ref qm_held] : List Value).toArray below meth c H locs 0 0 (MQ below (k_QV D [(qm, .inr (6, [.ref qm_w, .ref qm_past, .int z_m_pastMany, .ref qm_images, .int m_filled, .ref qm_text, .int m_length, .ref qm_may, .ref qm_least, .ref qm_isCarried, .ref qm_list, .ref qm_nodes, .int m_listMany, .int m_went, .int m_cost, .int m_cause, .int m_looks, .int m_isSent, .int m_isOld, .ref qm_kept, .ref qm_keptLow, .ref qm_keptHigh, .int m_keptMany, .ref qm_keptNodes, .ref qm_numbers, .ref qm_sums, .ref qm_commands, .int m_commandMany, .ref qm_held])), (qm_past, .inl (cI, 744, .inl z_m_past)), (qm_held, .inl (cI, 93, .inl m_held))] A) ([.ref qm, .ref qm_held] : List Value).toArray s 0 0 A) (F0 m 51 ls []) := by
    intro n51
    induction n51 with
    | zero =>
      intro x2 m_past m_pastMany m_held H locs ls hP hD hS hl h
      rw [f_X6_recordH_b51] at h
      cases h
    | succ n51 ih51 =>
      intro x2 m_past m_pastMany m_held H locs ls hP hD hS hl h
      rw [f_X6_recordH_b51] at h
      refine lv_iload_n hx hb dX6_record_51 rfl (lv_at hl 2 rfl) ?_
      refine lv_bipush (v := (93 : Int32)) hx hb dX6_record_52 (by decide) ?_
      refine lv_icmp_ge (tgt := 80) hx hb dX6_record_54 (by decide) (fun cc_5 => ?_) (fun cc_5 => ?_)
      · have h := (if_pos cc_5).symm.trans h
        refine lv_aload_n hx hb dX6_record_80 rfl (lv_at hl 0 rfl) ?_
        refine lv_dup hx hb dX6_record_81 rfl ?_
        refine va_get (D := D) (ci := 6) (v := .int m_pastMany) (C := RX6) (T := TX6) (N := 29) hx hb hu k_iX6 hown hK hP 0 rfl rfl 2 (by decide) (hu _ u_720) (fun _ h9 => h9) rfl dX6_record_82 ?_
        refine lv_iconst (v := (1 : Int32)) hx hb dX6_record_85 (by decide) ?_
        refine lv_iadd hx hb dX6_record_86 ?_
        refine va_put (D := D) (ci := 6) (v := .int (m_pastMany + (1 : Int32))) (ty := .int) (C := RX6) (T := TX6) (N := 29) hx hb hu k_iX6 tyX6 tyX6_ok nmX6 hown hK hP hD hS 0 rfl rfl 2 (by decide) (hu _ u_720) (fun _ h9 => h9) rfl (by decide +kernel) rfl rfl (Nat.le_of_ble_eq_true rfl) dX6_record_87 (fun H locs hP hD hS => ?_)
        have hP : va_P D vwCl [(qm, .inr (6, [.ref qm_w, .ref qm_past, .int (m_pastMany + (1 : Int32)), .ref qm_images, .int m_filled, .ref qm_text, .int m_length, .ref qm_may, .ref qm_least, .ref qm_isCarried, .ref qm_list, .ref qm_nodes, .int m_listMany, .int m_went, .int m_cost, .int m_cause, .int m_looks, .int m_isSent, .int m_isOld, .ref qm_kept, .ref qm_keptLow, .ref qm_keptHigh, .int m_keptMany, .ref qm_keptNodes, .ref qm_numbers, .ref qm_sums, .ref qm_commands, .int m_commandMany, .ref qm_held])), (qm_past, .inl (cI, 744, .inl m_past)), (qm_held, .inl (cI, 93, .inl m_held))] H := hP
        have hD : va_D A [(qm, .inr (6, [.ref qm_w, .ref qm_past, .int (m_pastMany + (1 : Int32)), .ref qm_images, .int m_filled, .ref qm_text, .int m_length, .ref qm_may, .ref qm_least, .ref qm_isCarried, .ref qm_list, .ref qm_nodes, .int m_listMany, .int m_went, .int m_cost, .int m_cause, .int m_looks, .int m_isSent, .int m_isOld, .ref qm_kept, .ref qm_keptLow, .ref qm_keptHigh, .int m_keptMany, .ref qm_keptNodes, .ref qm_numbers, .ref qm_sums, .ref qm_commands, .int m_commandMany, .ref qm_held])), (qm_past, .inl (cI, 744, .inl m_past)), (qm_held, .inl (cI, 93, .inl m_held))] := hD
        have hq := Option.some.inj h
        clear h
        obtain ⟨e0, hq0⟩ := Prod.mk.inj hq
        clear hq
        subst e0
        subst hq0
        exact k_retV hx hb hr hlocks hP hD hS dX6_record_90
      · have h := (if_neg cc_5).symm.trans h
        refine lv_aload_n hx hb dX6_record_57 rfl (lv_at hl 0 rfl) ?_
        refine va_get (D := D) (ci := 6) (v := .ref qm_past) (C := RX6) (T := TX6) (N := 29) hx hb hu k_iX6 hown hK hP 0 rfl rfl 1 (by decide) (hu _ u_719) (fun _ h9 => h9) rfl dX6_record_58 ?_
        refine lv_bipush (v := (93 : Int32)) hx hb dX6_record_61 (by decide) ?_
        refine lv_aload_n hx hb dX6_record_63 rfl (lv_at hl 0 rfl) ?_
        refine va_get (D := D) (ci := 6) (v := .int m_pastMany) (C := RX6) (T := TX6) (N := 29) hx hb hu k_iX6 hown hK hP 0 rfl rfl 2 (by decide) (hu _ u_720) (fun _ h9 => h9) rfl dX6_record_64 ?_
        refine lv_imul hx hb dX6_record_67 ?_
        refine lv_iload_n hx hb dX6_record_68 rfl (lv_at hl 2 rfl) ?_
        refine lv_iadd hx hb dX6_record_69 ?_
        refine lv_aload_n hx hb dX6_record_70 rfl (lv_at hl 1 rfl) ?_
        refine lv_iload_n hx hb dX6_record_71 rfl (lv_at hl 2 rfl) ?_
        obtain ⟨hin_6, h⟩ := ob_if h
        have hin_6 := inb_in hin_6
        refine va_iald (D := D) hx hb hK hP 2 0 rfl rfl hin_6 dX6_record_72 ?_
        obtain ⟨hin_7, h⟩ := ob_if h
        have hin_7 := inb_in hin_7
        refine va_iast (D := D) hx hb hK hP hD hS 1 0 rfl rfl hin_7 dX6_record_73 (fun H locs hP hD hS => ?_)
        have hP : va_P D vwCl [(qm, .inr (6, [.ref qm_w, .ref qm_past, .int m_pastMany, .ref qm_images, .int m_filled, .ref qm_text, .int m_length, .ref qm_may, .ref qm_least, .ref qm_isCarried, .ref qm_list, .ref qm_nodes, .int m_listMany, .int m_went, .int m_cost, .int m_cause, .int m_looks, .int m_isSent, .int m_isOld, .ref qm_kept, .ref qm_keptLow, .ref qm_keptHigh, .int m_keptMany, .ref qm_keptNodes, .ref qm_numbers, .ref qm_sums, .ref qm_commands, .int m_commandMany, .ref qm_held])), (qm_past, .inl (cI, 744, .inl (upd m_past (Int32.toNatClampNeg (((93 : Int32) * m_pastMany) + x2)) (m_held (Int32.toNatClampNeg x2))))), (qm_held, .inl (cI, 93, .inl m_held))] H := hP
        have hD : va_D A [(qm, .inr (6, [.ref qm_w, .ref qm_past, .int m_pastMany, .ref qm_images, .int m_filled, .ref qm_text, .int m_length, .ref qm_may, .ref qm_least, .ref qm_isCarried, .ref qm_list, .ref qm_nodes, .int m_listMany, .int m_went, .int m_cost, .int m_cause, .int m_looks, .int m_isSent, .int m_isOld, .ref qm_kept, .ref qm_keptLow, .ref qm_keptHigh, .int m_keptMany, .ref qm_keptNodes, .ref qm_numbers, .ref qm_sums, .ref qm_commands, .int m_commandMany, .ref qm_held])), (qm_past, .inl (cI, 744, .inl (upd m_past (Int32.toNatClampNeg (((93 : Int32) * m_pastMany) + x2)) (m_held (Int32.toNatClampNeg x2))))), (qm_held, .inl (cI, 93, .inl m_held))] := hD
        refine lv_iinc (v := (x2 + (1 : Int32))) (lv' := [(2, .int (x2 + (1 : Int32))), (0, .ref qm), (1, .ref qm_held)]) hx hb dX6_record_74 hl (k := 2) rfl rfl (by decide) rfl (fun ls hl => ?_)
        refine lv_goto (tgt := 51) hx hb dX6_record_77 (by decide) ?_
        exact ih51 (x2 + (1 : Int32)) (upd m_past (Int32.toNatClampNeg (((93 : Int32) * m_pastMany) + x2)) (m_held (Int32.toNatClampNeg x2))) m_pastMany m_held _ _ _ hP hD hS (lv_sub hl [1, 2, 0] rfl) h
  have w11 : ∀ (n11 : Nat) (x2 : Int32) (m_past : (Nat → Int32)) (m_pastMany : Int32) (m_held : (Nat → Int32)) (H : Heap) (locs : List Loc) (ls : Array Slot), va_P D vwCl [(qm, .inr (6, [.ref qm_w, .ref qm_past, .int m_pastMany, .ref qm_images, .int m_filled, .ref qm_text, .int m_length, .ref qm_may, .ref qm_least, .ref qm_isCarried, .ref qm_list, .ref qm_nodes, .int m_listMany, .int m_went, .int m_cost, .int m_cause, .int m_looks, .int m_isSent, .int m_isOld, .ref qm_kept, .ref qm_keptLow, .ref qm_keptHigh, .int m_keptMany, .ref qm_keptNodes, .ref qm_numbers, .ref qm_sums, .ref qm_commands, .int m_commandMany, .ref qm_held])), (qm_past, .inl (cI, 744, .inl m_past)), (qm_held, .inl (cI, 93, .inl m_held))] H → va_D A [(qm, .inr (6, [.ref qm_w, .ref qm_past, .int m_pastMany, .ref qm_images, .int m_filled, .ref qm_text, .int m_length, .ref qm_may, .ref qm_least, .ref qm_isCarried, .ref qm_list, .ref qm_nodes, .int m_listMany, .int m_went, .int m_cost, .int m_cause, .int m_looks, .int m_isSent, .int m_isOld, .ref qm_kept, .ref qm_keptLow, .ref qm_keptHigh, .int m_keptMany, .ref qm_keptNodes, .ref qm_numbers, .ref qm_sums, .ref qm_commands, .int m_commandMany, .ref qm_held])), (qm_past, .inl (cI, 744, .inl m_past)), (qm_held, .inl (cI, 93, .inl m_held))] → va_S A s.heap H locs → lv_has ls 3 [(0, .ref qm), (1, .ref qm_held), (2, .int x2)] → f_X6_recordH_b11 n11 x2 m_past m_pastMany m_held = some (z_m_past, z_m_pastMany) → W p l e { frames := 0, cells := 0, slots := 0, locals := 0 } s m ([.ref qm, .ref qm_held] : List Value).toArray below meth c H locs 0 0 (MQ below (k_QV D [(qm, .inr (6, [.ref qm_w, .ref qm_past, .int z_m_pastMany, .ref qm_images, .int m_filled, .ref qm_text, .int m_length, .ref qm_may, .ref qm_least, .ref qm_isCarried, .ref qm_list, .ref qm_nodes, .int m_listMany, .int m_went, .int m_cost, .int m_cause, .int m_looks, .int m_isSent, .int m_isOld, .ref qm_kept, .ref qm_keptLow, .ref qm_keptHigh, .int m_keptMany, .ref qm_keptNodes, .ref qm_numbers, .ref qm_sums, .ref qm_commands, .int m_commandMany, .ref qm_held])), (qm_past, .inl (cI, 744, .inl z_m_past)), (qm_held, .inl (cI, 93, .inl m_held))] A) ([.ref qm, .ref qm_held] : List Value).toArray s 0 0 A) (F0 m 11 ls []) := by
    intro n11
    induction n11 with
    | zero =>
      intro x2 m_past m_pastMany m_held H locs ls hP hD hS hl h
      rw [f_X6_recordH_b11] at h
      cases h
    | succ n11 ih11 =>
      intro x2 m_past m_pastMany m_held H locs ls hP hD hS hl h
      rw [f_X6_recordH_b11] at h
      refine lv_iload_n hx hb dX6_record_11 rfl (lv_at hl 2 rfl) ?_
      refine lv_sipush (v := (651 : Int32)) hx hb dX6_record_12 (by decide) ?_
      refine lv_icmp_ge (tgt := 39) hx hb dX6_record_15 (by decide) (fun cc_2 => ?_) (fun cc_2 => ?_)
      · have h := (if_pos cc_2).symm.trans h
        refine lv_aload_n hx hb dX6_record_39 rfl (lv_at hl 0 rfl) ?_
        refine lv_dup hx hb dX6_record_40 rfl ?_
        refine va_get (D := D) (ci := 6) (v := .int m_pastMany) (C := RX6) (T := TX6) (N := 29) hx hb hu k_iX6 hown hK hP 0 rfl rfl 2 (by decide) (hu _ u_720) (fun _ h9 => h9) rfl dX6_record_41 ?_
        refine lv_iconst (v := (1 : Int32)) hx hb dX6_record_44 (by decide) ?_
        refine lv_isub hx hb dX6_record_45 ?_
        refine va_put (D := D) (ci := 6) (v := .int (m_pastMany - (1 : Int32))) (ty := .int) (C := RX6) (T := TX6) (N := 29) hx hb hu k_iX6 tyX6 tyX6_ok nmX6 hown hK hP hD hS 0 rfl rfl 2 (by decide) (hu _ u_720) (fun _ h9 => h9) rfl (by decide +kernel) rfl rfl (Nat.le_of_ble_eq_true rfl) dX6_record_46 (fun H locs hP hD hS => ?_)
        have hP : va_P D vwCl [(qm, .inr (6, [.ref qm_w, .ref qm_past, .int (m_pastMany - (1 : Int32)), .ref qm_images, .int m_filled, .ref qm_text, .int m_length, .ref qm_may, .ref qm_least, .ref qm_isCarried, .ref qm_list, .ref qm_nodes, .int m_listMany, .int m_went, .int m_cost, .int m_cause, .int m_looks, .int m_isSent, .int m_isOld, .ref qm_kept, .ref qm_keptLow, .ref qm_keptHigh, .int m_keptMany, .ref qm_keptNodes, .ref qm_numbers, .ref qm_sums, .ref qm_commands, .int m_commandMany, .ref qm_held])), (qm_past, .inl (cI, 744, .inl m_past)), (qm_held, .inl (cI, 93, .inl m_held))] H := hP
        have hD : va_D A [(qm, .inr (6, [.ref qm_w, .ref qm_past, .int (m_pastMany - (1 : Int32)), .ref qm_images, .int m_filled, .ref qm_text, .int m_length, .ref qm_may, .ref qm_least, .ref qm_isCarried, .ref qm_list, .ref qm_nodes, .int m_listMany, .int m_went, .int m_cost, .int m_cause, .int m_looks, .int m_isSent, .int m_isOld, .ref qm_kept, .ref qm_keptLow, .ref qm_keptHigh, .int m_keptMany, .ref qm_keptNodes, .ref qm_numbers, .ref qm_sums, .ref qm_commands, .int m_commandMany, .ref qm_held])), (qm_past, .inl (cI, 744, .inl m_past)), (qm_held, .inl (cI, 93, .inl m_held))] := hD
        refine lv_iconst (v := (0 : Int32)) hx hb dX6_record_49 (by decide) ?_
        refine lv_istore_n (lv' := [(2, .int (0 : Int32)), (0, .ref qm), (1, .ref qm_held)]) hx hb dX6_record_50 rfl hl (by decide) rfl (fun ls hl => ?_)
        exact w51 1000 (0 : Int32) m_past (m_pastMany - (1 : Int32)) m_held _ _ _ hP hD hS (lv_sub hl [1, 2, 0] rfl) h
      · have h := (if_neg cc_2).symm.trans h
        refine lv_aload_n hx hb dX6_record_18 rfl (lv_at hl 0 rfl) ?_
        refine va_get (D := D) (ci := 6) (v := .ref qm_past) (C := RX6) (T := TX6) (N := 29) hx hb hu k_iX6 hown hK hP 0 rfl rfl 1 (by decide) (hu _ u_719) (fun _ h9 => h9) rfl dX6_record_19 ?_
        refine lv_iload_n hx hb dX6_record_22 rfl (lv_at hl 2 rfl) ?_
        refine lv_aload_n hx hb dX6_record_23 rfl (lv_at hl 0 rfl) ?_
        refine va_get (D := D) (ci := 6) (v := .ref qm_past) (C := RX6) (T := TX6) (N := 29) hx hb hu k_iX6 hown hK hP 0 rfl rfl 1 (by decide) (hu _ u_719) (fun _ h9 => h9) rfl dX6_record_24 ?_
        refine lv_iload_n hx hb dX6_record_27 rfl (lv_at hl 2 rfl) ?_
        refine lv_bipush (v := (93 : Int32)) hx hb dX6_record_28 (by decide) ?_
        refine lv_iadd hx hb dX6_record_30 ?_
        obtain ⟨hin_3, h⟩ := ob_if h
        have hin_3 := inb_in hin_3
        refine va_iald (D := D) hx hb hK hP 1 0 rfl rfl hin_3 dX6_record_31 ?_
        obtain ⟨hin_4, h⟩ := ob_if h
        have hin_4 := inb_in hin_4
        refine va_iast (D := D) hx hb hK hP hD hS 1 0 rfl rfl hin_4 dX6_record_32 (fun H locs hP hD hS => ?_)
        have hP : va_P D vwCl [(qm, .inr (6, [.ref qm_w, .ref qm_past, .int m_pastMany, .ref qm_images, .int m_filled, .ref qm_text, .int m_length, .ref qm_may, .ref qm_least, .ref qm_isCarried, .ref qm_list, .ref qm_nodes, .int m_listMany, .int m_went, .int m_cost, .int m_cause, .int m_looks, .int m_isSent, .int m_isOld, .ref qm_kept, .ref qm_keptLow, .ref qm_keptHigh, .int m_keptMany, .ref qm_keptNodes, .ref qm_numbers, .ref qm_sums, .ref qm_commands, .int m_commandMany, .ref qm_held])), (qm_past, .inl (cI, 744, .inl (upd m_past (Int32.toNatClampNeg x2) (m_past (Int32.toNatClampNeg (x2 + (93 : Int32))))))), (qm_held, .inl (cI, 93, .inl m_held))] H := hP
        have hD : va_D A [(qm, .inr (6, [.ref qm_w, .ref qm_past, .int m_pastMany, .ref qm_images, .int m_filled, .ref qm_text, .int m_length, .ref qm_may, .ref qm_least, .ref qm_isCarried, .ref qm_list, .ref qm_nodes, .int m_listMany, .int m_went, .int m_cost, .int m_cause, .int m_looks, .int m_isSent, .int m_isOld, .ref qm_kept, .ref qm_keptLow, .ref qm_keptHigh, .int m_keptMany, .ref qm_keptNodes, .ref qm_numbers, .ref qm_sums, .ref qm_commands, .int m_commandMany, .ref qm_held])), (qm_past, .inl (cI, 744, .inl (upd m_past (Int32.toNatClampNeg x2) (m_past (Int32.toNatClampNeg (x2 + (93 : Int32))))))), (qm_held, .inl (cI, 93, .inl m_held))] := hD
        refine lv_iinc (v := (x2 + (1 : Int32))) (lv' := [(2, .int (x2 + (1 : Int32))), (0, .ref qm), (1, .ref qm_held)]) hx hb dX6_record_33 hl (k := 2) rfl rfl (by decide) rfl (fun ls hl => ?_)
        refine lv_goto (tgt := 11) hx hb dX6_record_36 (by decide) ?_
        exact ih11 (x2 + (1 : Int32)) (upd m_past (Int32.toNatClampNeg x2) (m_past (Int32.toNatClampNeg (x2 + (93 : Int32))))) m_pastMany m_held _ _ _ hP hD hS (lv_sub hl [1, 2, 0] rfl) h
  refine lv_aload_n hx hb dX6_record_0 rfl (lv_at hl 0 rfl) ?_
  refine va_get (D := D) (ci := 6) (v := .int m_pastMany) (C := RX6) (T := TX6) (N := 29) hx hb hu k_iX6 hown hK hP 0 rfl rfl 2 (by decide) (hu _ u_720) (fun _ h9 => h9) rfl dX6_record_1 ?_
  refine lv_bipush (v := (8 : Int32)) hx hb dX6_record_4 (by decide) ?_
  refine lv_icmp_ne (tgt := 49) hx hb dX6_record_6 (by decide) (fun cc_1 => ?_) (fun cc_1 => ?_)
  · have h := (if_neg cc_1).symm.trans h
    refine lv_iconst (v := (0 : Int32)) hx hb dX6_record_49 (by decide) ?_
    refine lv_istore_n (lv' := [(2, .int (0 : Int32)), (0, .ref qm), (1, .ref qm_held)]) hx hb dX6_record_50 rfl hl (by decide) rfl (fun ls hl => ?_)
    exact w51 1000 (0 : Int32) m_past m_pastMany m_held _ _ _ hP hD hS (lv_sub hl [1, 2, 0] rfl) h
  · have h := (if_pos cc_1).symm.trans h
    refine lv_iconst (v := (0 : Int32)) hx hb dX6_record_9 (by decide) ?_
    refine lv_istore_n (lv' := [(2, .int (0 : Int32)), (0, .ref qm), (1, .ref qm_held)]) hx hb dX6_record_10 rfl hl (by decide) rfl (fun ls hl => ?_)
    exact w11 1000 (0 : Int32) m_past m_pastMany m_held _ _ _ hP hD hS (lv_sub hl [1, 2, 0] rfl) h
def f_X6_remember (m_w : (Nat → Int32)) (m_past : (Nat → Int32)) (m_pastMany : Int32) : Option ((Nat → Int32) × Int32) :=
  (f_X6_record m_w m_past m_pastMany).bind fun ⟨o_1, o_2⟩ =>
  some (o_1, o_2)
set_option maxHeartbeats 4000000 in
set_option maxRecDepth 100000 in
theorem c_X6_remember (l : Launch) (D : va_G) (cI cZ cN : ClassId) (aK aV : Nat → Nat)  (qm : Nat) (qm_w : Nat) (qm_past : Nat) (qm_images : Nat) (qm_text : Nat) (qm_may : Nat) (qm_least : Nat) (qm_isCarried : Nat) (qm_list : Nat) (qm_nodes : Nat) (qm_kept : Nat) (qm_keptLow : Nat) (qm_keptHigh : Nat) (qm_keptNodes : Nat) (qm_numbers : Nat) (qm_sums : Nat) (qm_commands : Nat) (qm_held : Nat) (m_w : (Nat → Int32)) (m_past : (Nat → Int32)) (m_pastMany : Int32) (m_filled : Int32) (m_length : Int32) (m_listMany : Int32) (m_went : Int32) (m_cost : Int32) (m_cause : Int32) (m_looks : Int32) (m_isSent : Int32) (m_isOld : Int32) (m_keptMany : Int32) (m_commandMany : Int32) (z_m_past : (Nat → Int32)) (z_m_pastMany : Int32) (h : f_X6_remember m_w m_past m_pastMany = some (z_m_past, z_m_pastMany)) : CtV l D cI cZ cN aK aV yX6_remember (k_W yX6_remember cX6_remember 1 none) { frames := 1, cells := 0, slots := 0, locals := 22 } [.ref qm] [(qm, .inr (6, [.ref qm_w, .ref qm_past, .int m_pastMany, .ref qm_images, .int m_filled, .ref qm_text, .int m_length, .ref qm_may, .ref qm_least, .ref qm_isCarried, .ref qm_list, .ref qm_nodes, .int m_listMany, .int m_went, .int m_cost, .int m_cause, .int m_looks, .int m_isSent, .int m_isOld, .ref qm_kept, .ref qm_keptLow, .ref qm_keptHigh, .int m_keptMany, .ref qm_keptNodes, .ref qm_numbers, .ref qm_sums, .ref qm_commands, .int m_commandMany, .ref qm_held])), (qm_w, .inl (cI, 93, .inl m_w)), (qm_past, .inl (cI, 744, .inl m_past))] [(qm, .inr (6, [.ref qm_w, .ref qm_past, .int z_m_pastMany, .ref qm_images, .int m_filled, .ref qm_text, .int m_length, .ref qm_may, .ref qm_least, .ref qm_isCarried, .ref qm_list, .ref qm_nodes, .int m_listMany, .int m_went, .int m_cost, .int m_cause, .int m_looks, .int m_isSent, .int m_isOld, .ref qm_kept, .ref qm_keptLow, .ref qm_keptHigh, .int m_keptMany, .ref qm_keptNodes, .ref qm_numbers, .ref qm_sums, .ref qm_commands, .int m_commandMany, .ref qm_held])), (qm_w, .inl (cI, 93, .inl m_w)), (qm_past, .inl (cI, 744, .inl z_m_past))] := by
  refine k_startV (by decide) (Nat.le_of_ble_eq_true rfl) ?_
  intro p e s m below meth c A ls hx hb hr hml hown hts hlocks hT hZ hA hP hD hS hl
  have hK := hT.1
  have hu : ∀ w ∈ k_U, w.before ([.ref qm] : List Value).toArray s = true := fun w h => hts w (List.mem_cons_of_mem _ h)
  have hown : s.vm.findClass RX6 = some m.cls := hown
  have hl : lv_has ls 1 [(0, .ref qm)] := hl
  unfold f_X6_remember at h
  refine lv_aload_n hx hb dX6_remember_0 rfl (lv_at hl 0 rfl) ?_
  refine lv_aload_n hx hb dX6_remember_1 rfl (lv_at hl 0 rfl) ?_
  refine va_get (D := D) (ci := 6) (v := .ref qm_w) (C := RX6) (T := TX6) (N := 29) hx hb hu k_iX6 hown hK hP 0 rfl rfl 0 (by decide) (hu _ u_718) (fun _ h9 => h9) rfl dX6_remember_2 ?_
  obtain ⟨⟨o_1, o_2⟩, hc_3, h⟩ := ob_bind h
  dsimp only at h
  refine k_callVV (qb := 0) [0, 1, 2] [0, 2] [0, 2] [(qm, .inr (6, [.ref qm_w, .ref qm_past, .int o_2, .ref qm_images, .int m_filled, .ref qm_text, .int m_length, .ref qm_may, .ref qm_least, .ref qm_isCarried, .ref qm_list, .ref qm_nodes, .int m_listMany, .int m_went, .int m_cost, .int m_cause, .int m_looks, .int m_isSent, .int m_isOld, .ref qm_kept, .ref qm_keptLow, .ref qm_keptHigh, .int m_keptMany, .ref qm_keptNodes, .ref qm_numbers, .ref qm_sums, .ref qm_commands, .int m_commandMany, .ref qm_held])), (qm_past, .inl (cI, 744, .inl o_1))] (As := [.ref qm_w]) (rest := []) ⟨hx, hb, hml, hown, hts⟩ hT hZ hA hP hD hS (c_X6_record l D cI cZ cN aK aV qm qm_w qm_past qm_images qm_text qm_may qm_least qm_isCarried qm_list qm_nodes qm_kept qm_keptLow qm_keptHigh qm_keptNodes qm_numbers qm_sums qm_commands qm_held m_w m_past m_pastMany m_filled m_length m_listMany m_went m_cost m_cause m_looks m_isSent m_isOld m_keptMany m_commandMany o_1 o_2 hc_3) ⟨callB_of 1 hts (k_good u_820) rfl rfl rfl (hu _ u_51) (hu _ u_817) (by decide +kernel) ⟨Nat.le_of_ble_eq_true rfl, Nat.le_of_ble_eq_true rfl⟩, hu _ u_819, hu _ u_19⟩ rfl rfl rfl (by decide) (by decide) (by decide) rfl rfl rfl rfl hl.1 rfl (Nat.le_of_ble_eq_true rfl) dX6_remember_5 (fun H locs hP hD hS => ?_)
  have hP : va_P D vwCl [(qm, .inr (6, [.ref qm_w, .ref qm_past, .int o_2, .ref qm_images, .int m_filled, .ref qm_text, .int m_length, .ref qm_may, .ref qm_least, .ref qm_isCarried, .ref qm_list, .ref qm_nodes, .int m_listMany, .int m_went, .int m_cost, .int m_cause, .int m_looks, .int m_isSent, .int m_isOld, .ref qm_kept, .ref qm_keptLow, .ref qm_keptHigh, .int m_keptMany, .ref qm_keptNodes, .ref qm_numbers, .ref qm_sums, .ref qm_commands, .int m_commandMany, .ref qm_held])), (qm_w, .inl (cI, 93, .inl m_w)), (qm_past, .inl (cI, 744, .inl o_1))] H := hP
  have hD : va_D A [(qm, .inr (6, [.ref qm_w, .ref qm_past, .int o_2, .ref qm_images, .int m_filled, .ref qm_text, .int m_length, .ref qm_may, .ref qm_least, .ref qm_isCarried, .ref qm_list, .ref qm_nodes, .int m_listMany, .int m_went, .int m_cost, .int m_cause, .int m_looks, .int m_isSent, .int m_isOld, .ref qm_kept, .ref qm_keptLow, .ref qm_keptHigh, .int m_keptMany, .ref qm_keptNodes, .ref qm_numbers, .ref qm_sums, .ref qm_commands, .int m_commandMany, .ref qm_held])), (qm_w, .inl (cI, 93, .inl m_w)), (qm_past, .inl (cI, 744, .inl o_1))] := hD
  have hq := Option.some.inj h
  clear h
  obtain ⟨e0, hq0⟩ := Prod.mk.inj hq
  clear hq
  subst e0
  subst hq0
  exact k_retV hx hb hr hlocks hP hD hS dX6_remember_8
def f_X6_linkOf_b32 (k2 : Int32 → Int32 → Int32 → (Nat → Int32) → Option (Int32)) (x1 : Int32) (x2 : Int32) (x3 : Int32) (m_w : (Nat → Int32)) : Option (Int32) :=
  (f_X6_of x3 (0 : Int32) m_w).bind fun r_8 =>
  if r_8 = x2 then
    (f_X6_of x3 (1 : Int32) m_w).bind fun r_11 =>
    if r_11 = x1 then
      some (x3)
    else
      k2 x1 x2 (x3 + (1 : Int32)) m_w
  else
    k2 x1 x2 (x3 + (1 : Int32)) m_w
def f_X6_linkOf_b2  : Nat → Int32 → Int32 → Int32 → (Nat → Int32) → Option (Int32)
  | 0, _, _, _, _ => none
  | n + 1, x1, x2, x3, m_w =>
    if (m_w (Int32.toNatClampNeg (1 : Int32))) ≤ x3 then
      some ((-9 : Int32))
    else
      (f_X6_of x3 (0 : Int32) m_w).bind fun r_2 =>
      if r_2 = x1 then
        (f_X6_of x3 (1 : Int32) m_w).bind fun r_5 =>
        if r_5 = x2 then
          some (x3)
        else
          f_X6_linkOf_b32 (f_X6_linkOf_b2 n) x1 x2 x3 m_w
      else
        f_X6_linkOf_b32 (f_X6_linkOf_b2 n) x1 x2 x3 m_w
def f_X6_linkOf (p1 : Int32) (p2 : Int32) (m_w : (Nat → Int32)) : Option (Int32) :=
  f_X6_linkOf_b2 1000 p1 p2 (0 : Int32) m_w
set_option maxHeartbeats 4000000 in
set_option maxRecDepth 100000 in
theorem c_X6_linkOf (l : Launch) (D : va_G) (cI cZ cN : ClassId) (aK aV : Nat → Nat)  (qm : Nat) (qm_w : Nat) (qm_past : Nat) (qm_images : Nat) (qm_text : Nat) (qm_may : Nat) (qm_least : Nat) (qm_isCarried : Nat) (qm_list : Nat) (qm_nodes : Nat) (qm_kept : Nat) (qm_keptLow : Nat) (qm_keptHigh : Nat) (qm_keptNodes : Nat) (qm_numbers : Nat) (qm_sums : Nat) (qm_commands : Nat) (qm_held : Nat) (m_w : (Nat → Int32)) (m_pastMany : Int32) (m_filled : Int32) (m_length : Int32) (m_listMany : Int32) (m_went : Int32) (m_cost : Int32) (m_cause : Int32) (m_looks : Int32) (m_isSent : Int32) (m_isOld : Int32) (m_keptMany : Int32) (m_commandMany : Int32) (p1 p2 : Int32) (r : Int32) (h : f_X6_linkOf p1 p2 m_w = some r) : CtI l D cI cZ cN aK aV yX6_linkOf (k_W yX6_linkOf cX6_linkOf 4 (some .int)) { frames := 1, cells := 0, slots := 0, locals := 22 } [.ref qm, .int p1, .int p2] [(qm, .inr (6, [.ref qm_w, .ref qm_past, .int m_pastMany, .ref qm_images, .int m_filled, .ref qm_text, .int m_length, .ref qm_may, .ref qm_least, .ref qm_isCarried, .ref qm_list, .ref qm_nodes, .int m_listMany, .int m_went, .int m_cost, .int m_cause, .int m_looks, .int m_isSent, .int m_isOld, .ref qm_kept, .ref qm_keptLow, .ref qm_keptHigh, .int m_keptMany, .ref qm_keptNodes, .ref qm_numbers, .ref qm_sums, .ref qm_commands, .int m_commandMany, .ref qm_held])), (qm_w, .inl (cI, 93, .inl m_w))] r [(qm, .inr (6, [.ref qm_w, .ref qm_past, .int m_pastMany, .ref qm_images, .int m_filled, .ref qm_text, .int m_length, .ref qm_may, .ref qm_least, .ref qm_isCarried, .ref qm_list, .ref qm_nodes, .int m_listMany, .int m_went, .int m_cost, .int m_cause, .int m_looks, .int m_isSent, .int m_isOld, .ref qm_kept, .ref qm_keptLow, .ref qm_keptHigh, .int m_keptMany, .ref qm_keptNodes, .ref qm_numbers, .ref qm_sums, .ref qm_commands, .int m_commandMany, .ref qm_held])), (qm_w, .inl (cI, 93, .inl m_w))] := by
  refine k_startI (by decide) (Nat.le_of_ble_eq_true rfl) ?_
  intro p e s m below meth c A ls hx hb hr hml hown hts hlocks hT hZ hA hP hD hS hl
  have hK := hT.1
  have hu : ∀ w ∈ k_U, w.before ([.ref qm, .int p1, .int p2] : List Value).toArray s = true := fun w h => hts w (List.mem_cons_of_mem _ h)
  have hown : s.vm.findClass RX6 = some m.cls := hown
  have hl : lv_has ls 4 [(0, .ref qm), (1, .int p1), (2, .int p2)] := hl
  unfold f_X6_linkOf at h
  have w2 : ∀ (n2 : Nat) (x1 : Int32) (x2 : Int32) (x3 : Int32) (m_w : (Nat → Int32)) (H : Heap) (locs : List Loc) (ls : Array Slot), va_P D vwCl [(qm, .inr (6, [.ref qm_w, .ref qm_past, .int m_pastMany, .ref qm_images, .int m_filled, .ref qm_text, .int m_length, .ref qm_may, .ref qm_least, .ref qm_isCarried, .ref qm_list, .ref qm_nodes, .int m_listMany, .int m_went, .int m_cost, .int m_cause, .int m_looks, .int m_isSent, .int m_isOld, .ref qm_kept, .ref qm_keptLow, .ref qm_keptHigh, .int m_keptMany, .ref qm_keptNodes, .ref qm_numbers, .ref qm_sums, .ref qm_commands, .int m_commandMany, .ref qm_held])), (qm_w, .inl (cI, 93, .inl m_w))] H → va_D A [(qm, .inr (6, [.ref qm_w, .ref qm_past, .int m_pastMany, .ref qm_images, .int m_filled, .ref qm_text, .int m_length, .ref qm_may, .ref qm_least, .ref qm_isCarried, .ref qm_list, .ref qm_nodes, .int m_listMany, .int m_went, .int m_cost, .int m_cause, .int m_looks, .int m_isSent, .int m_isOld, .ref qm_kept, .ref qm_keptLow, .ref qm_keptHigh, .int m_keptMany, .ref qm_keptNodes, .ref qm_numbers, .ref qm_sums, .ref qm_commands, .int m_commandMany, .ref qm_held])), (qm_w, .inl (cI, 93, .inl m_w))] → va_S A s.heap H locs → lv_has ls 4 [(0, .ref qm), (1, .int x1), (2, .int x2), (3, .int x3)] → f_X6_linkOf_b2 n2 x1 x2 x3 m_w = some r → W p l e { frames := 1, cells := 0, slots := 0, locals := 22 } s m ([.ref qm, .int p1, .int p2] : List Value).toArray below meth c H locs 0 0 (MQ below (k_QI D r [(qm, .inr (6, [.ref qm_w, .ref qm_past, .int m_pastMany, .ref qm_images, .int m_filled, .ref qm_text, .int m_length, .ref qm_may, .ref qm_least, .ref qm_isCarried, .ref qm_list, .ref qm_nodes, .int m_listMany, .int m_went, .int m_cost, .int m_cause, .int m_looks, .int m_isSent, .int m_isOld, .ref qm_kept, .ref qm_keptLow, .ref qm_keptHigh, .int m_keptMany, .ref qm_keptNodes, .ref qm_numbers, .ref qm_sums, .ref qm_commands, .int m_commandMany, .ref qm_held])), (qm_w, .inl (cI, 93, .inl m_w))] A) ([.ref qm, .int p1, .int p2] : List Value).toArray s 0 0 A) (F0 m 2 ls []) := by
    intro n2
    induction n2 with
    | zero =>
      intro x1 x2 x3 m_w H locs ls hP hD hS hl h
      rw [f_X6_linkOf_b2] at h
      cases h
    | succ n2 ih2 =>
      intro x1 x2 x3 m_w H locs ls hP hD hS hl h
      rw [f_X6_linkOf_b2] at h
      have w32 : ∀  (x1 : Int32) (x2 : Int32) (x3 : Int32) (m_w : (Nat → Int32)) (H : Heap) (locs : List Loc) (ls : Array Slot), va_P D vwCl [(qm, .inr (6, [.ref qm_w, .ref qm_past, .int m_pastMany, .ref qm_images, .int m_filled, .ref qm_text, .int m_length, .ref qm_may, .ref qm_least, .ref qm_isCarried, .ref qm_list, .ref qm_nodes, .int m_listMany, .int m_went, .int m_cost, .int m_cause, .int m_looks, .int m_isSent, .int m_isOld, .ref qm_kept, .ref qm_keptLow, .ref qm_keptHigh, .int m_keptMany, .ref qm_keptNodes, .ref qm_numbers, .ref qm_sums, .ref qm_commands, .int m_commandMany, .ref qm_held])), (qm_w, .inl (cI, 93, .inl m_w))] H → va_D A [(qm, .inr (6, [.ref qm_w, .ref qm_past, .int m_pastMany, .ref qm_images, .int m_filled, .ref qm_text, .int m_length, .ref qm_may, .ref qm_least, .ref qm_isCarried, .ref qm_list, .ref qm_nodes, .int m_listMany, .int m_went, .int m_cost, .int m_cause, .int m_looks, .int m_isSent, .int m_isOld, .ref qm_kept, .ref qm_keptLow, .ref qm_keptHigh, .int m_keptMany, .ref qm_keptNodes, .ref qm_numbers, .ref qm_sums, .ref qm_commands, .int m_commandMany, .ref qm_held])), (qm_w, .inl (cI, 93, .inl m_w))] → va_S A s.heap H locs → lv_has ls 4 [(0, .ref qm), (1, .int x1), (2, .int x2), (3, .int x3)] → f_X6_linkOf_b32 (f_X6_linkOf_b2 n2) x1 x2 x3 m_w = some r → W p l e { frames := 1, cells := 0, slots := 0, locals := 22 } s m ([.ref qm, .int p1, .int p2] : List Value).toArray below meth c H locs 0 0 (MQ below (k_QI D r [(qm, .inr (6, [.ref qm_w, .ref qm_past, .int m_pastMany, .ref qm_images, .int m_filled, .ref qm_text, .int m_length, .ref qm_may, .ref qm_least, .ref qm_isCarried, .ref qm_list, .ref qm_nodes, .int m_listMany, .int m_went, .int m_cost, .int m_cause, .int m_looks, .int m_isSent, .int m_isOld, .ref qm_kept, .ref qm_keptLow, .ref qm_keptHigh, .int m_keptMany, .ref qm_keptNodes, .ref qm_numbers, .ref qm_sums, .ref qm_commands, .int m_commandMany, .ref qm_held])), (qm_w, .inl (cI, 93, .inl m_w))] A) ([.ref qm, .int p1, .int p2] : List Value).toArray s 0 0 A) (F0 m 32 ls []) := by
        intro x1 x2 x3 m_w H locs ls hP hD hS hl h
        unfold f_X6_linkOf_b32 at h
        refine lv_aload_n hx hb dX6_linkOf_32 rfl (lv_at hl 0 rfl) ?_
        refine lv_iload_n hx hb dX6_linkOf_33 rfl (lv_at hl 3 rfl) ?_
        refine lv_iconst (v := (0 : Int32)) hx hb dX6_linkOf_34 (by decide) ?_
        obtain ⟨r_8, hc_9, h⟩ := ob_bind h
        refine k_callVIr (qb := 0) [0, 1] (As := [.int x3, .int (0 : Int32)]) (rest := []) ⟨hx, hb, hml, hown, hts⟩ hT hZ hA hP hD hS (c_X6_of l D cI cZ cN aK aV qm qm_w qm_past qm_images qm_text qm_may qm_least qm_isCarried qm_list qm_nodes qm_kept qm_keptLow qm_keptHigh qm_keptNodes qm_numbers qm_sums qm_commands qm_held m_w m_pastMany m_filled m_length m_listMany m_went m_cost m_cause m_looks m_isSent m_isOld m_keptMany m_commandMany x3 (0 : Int32) r_8 hc_9) ⟨callB_of 2 hts (k_good u_840) rfl rfl rfl (hu _ u_51) (hu _ u_837) (by decide +kernel) ⟨Nat.le_of_ble_eq_true rfl, Nat.le_of_ble_eq_true rfl⟩, hu _ u_839, hu _ u_23⟩ rfl rfl rfl (by decide) rfl hl.1 rfl (Nat.le_of_ble_eq_true rfl) dX6_linkOf_35 (fun H locs hP hD hS => ?_)
        refine lv_iload_n hx hb dX6_linkOf_38 rfl (lv_at hl 2 rfl) ?_
        refine lv_icmp_ne (tgt := 54) hx hb dX6_linkOf_39 (by decide) (fun cc_10 => ?_) (fun cc_10 => ?_)
        · have h := (if_neg cc_10).symm.trans h
          refine lv_iinc (v := (x3 + (1 : Int32))) (lv' := [(3, .int (x3 + (1 : Int32))), (0, .ref qm), (1, .int x1), (2, .int x2)]) hx hb dX6_linkOf_54 hl (k := 3) rfl rfl (by decide) rfl (fun ls hl => ?_)
          refine lv_goto (tgt := 2) hx hb dX6_linkOf_57 (by decide) ?_
          exact ih2 x1 x2 (x3 + (1 : Int32)) m_w _ _ _ hP hD hS (lv_sub hl [1, 2, 3, 0] rfl) h
        · have h := (if_pos cc_10).symm.trans h
          refine lv_aload_n hx hb dX6_linkOf_42 rfl (lv_at hl 0 rfl) ?_
          refine lv_iload_n hx hb dX6_linkOf_43 rfl (lv_at hl 3 rfl) ?_
          refine lv_iconst (v := (1 : Int32)) hx hb dX6_linkOf_44 (by decide) ?_
          obtain ⟨r_11, hc_12, h⟩ := ob_bind h
          refine k_callVIr (qb := 0) [0, 1] (As := [.int x3, .int (1 : Int32)]) (rest := []) ⟨hx, hb, hml, hown, hts⟩ hT hZ hA hP hD hS (c_X6_of l D cI cZ cN aK aV qm qm_w qm_past qm_images qm_text qm_may qm_least qm_isCarried qm_list qm_nodes qm_kept qm_keptLow qm_keptHigh qm_keptNodes qm_numbers qm_sums qm_commands qm_held m_w m_pastMany m_filled m_length m_listMany m_went m_cost m_cause m_looks m_isSent m_isOld m_keptMany m_commandMany x3 (1 : Int32) r_11 hc_12) ⟨callB_of 2 hts (k_good u_840) rfl rfl rfl (hu _ u_51) (hu _ u_837) (by decide +kernel) ⟨Nat.le_of_ble_eq_true rfl, Nat.le_of_ble_eq_true rfl⟩, hu _ u_839, hu _ u_23⟩ rfl rfl rfl (by decide) rfl hl.1 rfl (Nat.le_of_ble_eq_true rfl) dX6_linkOf_45 (fun H locs hP hD hS => ?_)
          refine lv_iload_n hx hb dX6_linkOf_48 rfl (lv_at hl 1 rfl) ?_
          refine lv_icmp_ne (tgt := 54) hx hb dX6_linkOf_49 (by decide) (fun cc_13 => ?_) (fun cc_13 => ?_)
          · have h := (if_neg cc_13).symm.trans h
            refine lv_iinc (v := (x3 + (1 : Int32))) (lv' := [(3, .int (x3 + (1 : Int32))), (0, .ref qm), (1, .int x1), (2, .int x2)]) hx hb dX6_linkOf_54 hl (k := 3) rfl rfl (by decide) rfl (fun ls hl => ?_)
            refine lv_goto (tgt := 2) hx hb dX6_linkOf_57 (by decide) ?_
            exact ih2 x1 x2 (x3 + (1 : Int32)) m_w _ _ _ hP hD hS (lv_sub hl [1, 2, 3, 0] rfl) h
          · have h := (if_pos cc_13).symm.trans h
            refine lv_iload_n hx hb dX6_linkOf_52 rfl (lv_at hl 3 rfl) ?_
            have hq := Option.some.inj h
            clear h
            subst hq
            exact k_retI hx hb hr hlocks hP hD hS dX6_linkOf_53
      refine lv_iload_n hx hb dX6_linkOf_2 rfl (lv_at hl 3 rfl) ?_
      refine lv_aload_n hx hb dX6_linkOf_3 rfl (lv_at hl 0 rfl) ?_
      refine va_get (D := D) (ci := 6) (v := .ref qm_w) (C := RX6) (T := TX6) (N := 29) hx hb hu k_iX6 hown hK hP 0 rfl rfl 0 (by decide) (hu _ u_718) (fun _ h9 => h9) rfl dX6_linkOf_4 ?_
      refine lv_iconst (v := (1 : Int32)) hx hb dX6_linkOf_7 (by decide) ?_
      refine va_iald (D := D) hx hb hK hP 1 0 rfl rfl (inb_in (by decide)) dX6_linkOf_8 ?_
      refine lv_icmp_ge (tgt := 60) hx hb dX6_linkOf_9 (by decide) (fun cc_1 => ?_) (fun cc_1 => ?_)
      · have h := (if_pos cc_1).symm.trans h
        refine lv_bipush (v := (-9 : Int32)) hx hb dX6_linkOf_60 (by decide) ?_
        have hq := Option.some.inj h
        clear h
        subst hq
        exact k_retI hx hb hr hlocks hP hD hS dX6_linkOf_62
      · have h := (if_neg cc_1).symm.trans h
        refine lv_aload_n hx hb dX6_linkOf_12 rfl (lv_at hl 0 rfl) ?_
        refine lv_iload_n hx hb dX6_linkOf_13 rfl (lv_at hl 3 rfl) ?_
        refine lv_iconst (v := (0 : Int32)) hx hb dX6_linkOf_14 (by decide) ?_
        obtain ⟨r_2, hc_3, h⟩ := ob_bind h
        refine k_callVIr (qb := 0) [0, 1] (As := [.int x3, .int (0 : Int32)]) (rest := []) ⟨hx, hb, hml, hown, hts⟩ hT hZ hA hP hD hS (c_X6_of l D cI cZ cN aK aV qm qm_w qm_past qm_images qm_text qm_may qm_least qm_isCarried qm_list qm_nodes qm_kept qm_keptLow qm_keptHigh qm_keptNodes qm_numbers qm_sums qm_commands qm_held m_w m_pastMany m_filled m_length m_listMany m_went m_cost m_cause m_looks m_isSent m_isOld m_keptMany m_commandMany x3 (0 : Int32) r_2 hc_3) ⟨callB_of 2 hts (k_good u_840) rfl rfl rfl (hu _ u_51) (hu _ u_837) (by decide +kernel) ⟨Nat.le_of_ble_eq_true rfl, Nat.le_of_ble_eq_true rfl⟩, hu _ u_839, hu _ u_23⟩ rfl rfl rfl (by decide) rfl hl.1 rfl (Nat.le_of_ble_eq_true rfl) dX6_linkOf_15 (fun H locs hP hD hS => ?_)
        refine lv_iload_n hx hb dX6_linkOf_18 rfl (lv_at hl 1 rfl) ?_
        refine lv_icmp_ne (tgt := 32) hx hb dX6_linkOf_19 (by decide) (fun cc_4 => ?_) (fun cc_4 => ?_)
        · have h := (if_neg cc_4).symm.trans h
          exact w32 x1 x2 x3 m_w _ _ _ hP hD hS (lv_sub hl [0, 1, 2, 3] rfl) h
        · have h := (if_pos cc_4).symm.trans h
          refine lv_aload_n hx hb dX6_linkOf_22 rfl (lv_at hl 0 rfl) ?_
          refine lv_iload_n hx hb dX6_linkOf_23 rfl (lv_at hl 3 rfl) ?_
          refine lv_iconst (v := (1 : Int32)) hx hb dX6_linkOf_24 (by decide) ?_
          obtain ⟨r_5, hc_6, h⟩ := ob_bind h
          refine k_callVIr (qb := 0) [0, 1] (As := [.int x3, .int (1 : Int32)]) (rest := []) ⟨hx, hb, hml, hown, hts⟩ hT hZ hA hP hD hS (c_X6_of l D cI cZ cN aK aV qm qm_w qm_past qm_images qm_text qm_may qm_least qm_isCarried qm_list qm_nodes qm_kept qm_keptLow qm_keptHigh qm_keptNodes qm_numbers qm_sums qm_commands qm_held m_w m_pastMany m_filled m_length m_listMany m_went m_cost m_cause m_looks m_isSent m_isOld m_keptMany m_commandMany x3 (1 : Int32) r_5 hc_6) ⟨callB_of 2 hts (k_good u_840) rfl rfl rfl (hu _ u_51) (hu _ u_837) (by decide +kernel) ⟨Nat.le_of_ble_eq_true rfl, Nat.le_of_ble_eq_true rfl⟩, hu _ u_839, hu _ u_23⟩ rfl rfl rfl (by decide) rfl hl.1 rfl (Nat.le_of_ble_eq_true rfl) dX6_linkOf_25 (fun H locs hP hD hS => ?_)
          refine lv_iload_n hx hb dX6_linkOf_28 rfl (lv_at hl 2 rfl) ?_
          refine lv_icmp_eq (tgt := 52) hx hb dX6_linkOf_29 (by decide) (fun cc_7 => ?_) (fun cc_7 => ?_)
          · have h := (if_pos cc_7).symm.trans h
            refine lv_iload_n hx hb dX6_linkOf_52 rfl (lv_at hl 3 rfl) ?_
            have hq := Option.some.inj h
            clear h
            subst hq
            exact k_retI hx hb hr hlocks hP hD hS dX6_linkOf_53
          · have h := (if_neg cc_7).symm.trans h
            exact w32 x1 x2 x3 m_w _ _ _ hP hD hS (lv_sub hl [0, 1, 2, 3] rfl) h
  refine lv_iconst (v := (0 : Int32)) hx hb dX6_linkOf_0 (by decide) ?_
  refine lv_istore_n (lv' := [(3, .int (0 : Int32)), (0, .ref qm), (1, .int p1), (2, .int p2)]) hx hb dX6_linkOf_1 rfl hl (by decide) rfl (fun ls hl => ?_)
  exact w2 1000 p1 p2 (0 : Int32) m_w _ _ _ hP hD hS (lv_sub hl [1, 2, 3, 0] rfl) h
def f_X6_faultOfAdd (p1 : Int32) (p2 : Int32) (p3 : Int32) (m_w : (Nat → Int32)) : Option (Int32) :=
  (f_X6_isNode p1 m_w).bind fun r_1 =>
  if r_1 = (0 : Int32) then
    some ((-1 : Int32))
  else
    (f_X6_isNode p2 m_w).bind fun r_4 =>
    if r_4 = (0 : Int32) then
      some ((-1 : Int32))
    else
      if p1 = p2 then
        some ((-1 : Int32))
      else
        if (f_X6_isIn p3 (1 : Int32) (9 : Int32)) = (0 : Int32) then
          some ((-1 : Int32))
        else
          (f_X6_linkOf p1 p2 m_w).bind fun r_9 =>
          if r_9 = (-9 : Int32) then
            if (m_w (Int32.toNatClampNeg (1 : Int32))) = (18 : Int32) then
              some ((-3 : Int32))
            else
              some ((0 : Int32))
          else
            some ((-2 : Int32))
set_option maxHeartbeats 4000000 in
set_option maxRecDepth 100000 in
theorem c_X6_faultOfAdd (l : Launch) (D : va_G) (cI cZ cN : ClassId) (aK aV : Nat → Nat)  (qm : Nat) (qm_w : Nat) (qm_past : Nat) (qm_images : Nat) (qm_text : Nat) (qm_may : Nat) (qm_least : Nat) (qm_isCarried : Nat) (qm_list : Nat) (qm_nodes : Nat) (qm_kept : Nat) (qm_keptLow : Nat) (qm_keptHigh : Nat) (qm_keptNodes : Nat) (qm_numbers : Nat) (qm_sums : Nat) (qm_commands : Nat) (qm_held : Nat) (m_w : (Nat → Int32)) (m_pastMany : Int32) (m_filled : Int32) (m_length : Int32) (m_listMany : Int32) (m_went : Int32) (m_cost : Int32) (m_cause : Int32) (m_looks : Int32) (m_isSent : Int32) (m_isOld : Int32) (m_keptMany : Int32) (m_commandMany : Int32) (p1 p2 p3 : Int32) (r : Int32) (h : f_X6_faultOfAdd p1 p2 p3 m_w = some r) : CtI l D cI cZ cN aK aV yX6_faultOfAdd (k_W yX6_faultOfAdd cX6_faultOfAdd 4 (some .int)) { frames := 2, cells := 0, slots := 0, locals := 45 } [.ref qm, .int p1, .int p2, .int p3] [(qm, .inr (6, [.ref qm_w, .ref qm_past, .int m_pastMany, .ref qm_images, .int m_filled, .ref qm_text, .int m_length, .ref qm_may, .ref qm_least, .ref qm_isCarried, .ref qm_list, .ref qm_nodes, .int m_listMany, .int m_went, .int m_cost, .int m_cause, .int m_looks, .int m_isSent, .int m_isOld, .ref qm_kept, .ref qm_keptLow, .ref qm_keptHigh, .int m_keptMany, .ref qm_keptNodes, .ref qm_numbers, .ref qm_sums, .ref qm_commands, .int m_commandMany, .ref qm_held])), (qm_w, .inl (cI, 93, .inl m_w))] r [(qm, .inr (6, [.ref qm_w, .ref qm_past, .int m_pastMany, .ref qm_images, .int m_filled, .ref qm_text, .int m_length, .ref qm_may, .ref qm_least, .ref qm_isCarried, .ref qm_list, .ref qm_nodes, .int m_listMany, .int m_went, .int m_cost, .int m_cause, .int m_looks, .int m_isSent, .int m_isOld, .ref qm_kept, .ref qm_keptLow, .ref qm_keptHigh, .int m_keptMany, .ref qm_keptNodes, .ref qm_numbers, .ref qm_sums, .ref qm_commands, .int m_commandMany, .ref qm_held])), (qm_w, .inl (cI, 93, .inl m_w))] := by
  refine k_startI (by decide) (Nat.le_of_ble_eq_true rfl) ?_
  intro p e s m below meth c A ls hx hb hr hml hown hts hlocks hT hZ hA hP hD hS hl
  have hK := hT.1
  have hu : ∀ w ∈ k_U, w.before ([.ref qm, .int p1, .int p2, .int p3] : List Value).toArray s = true := fun w h => hts w (List.mem_cons_of_mem _ h)
  have hown : s.vm.findClass RX6 = some m.cls := hown
  have hl : lv_has ls 4 [(0, .ref qm), (1, .int p1), (2, .int p2), (3, .int p3)] := hl
  unfold f_X6_faultOfAdd at h
  refine lv_aload_n hx hb dX6_faultOfAdd_0 rfl (lv_at hl 0 rfl) ?_
  refine lv_iload_n hx hb dX6_faultOfAdd_1 rfl (lv_at hl 1 rfl) ?_
  obtain ⟨r_1, hc_2, h⟩ := ob_bind h
  refine k_callVIr (qb := 0) [0, 1] (As := [.int p1]) (rest := []) ⟨hx, hb, hml, hown, hts⟩ hT hZ hA hP hD hS (c_X6_isNode l D cI cZ cN aK aV qm qm_w qm_past qm_images qm_text qm_may qm_least qm_isCarried qm_list qm_nodes qm_kept qm_keptLow qm_keptHigh qm_keptNodes qm_numbers qm_sums qm_commands qm_held m_w m_pastMany m_filled m_length m_listMany m_went m_cost m_cause m_looks m_isSent m_isOld m_keptMany m_commandMany p1 r_1 hc_2) ⟨callB_of 1 hts (k_good u_832) rfl rfl rfl (hu _ u_51) (hu _ u_829) (by decide +kernel) ⟨Nat.le_of_ble_eq_true rfl, Nat.le_of_ble_eq_true rfl⟩, hu _ u_831, hu _ u_21⟩ rfl rfl rfl (by decide) rfl hl.1 rfl (Nat.le_of_ble_eq_true rfl) dX6_faultOfAdd_2 (fun H locs hP hD hS => ?_)
  refine lv_if_eq (tgt := 31) hx hb dX6_faultOfAdd_5 (by decide) (fun cc_3 => ?_) (fun cc_3 => ?_)
  · have h := (if_pos cc_3).symm.trans h
    refine lv_iconst (v := (-1 : Int32)) hx hb dX6_faultOfAdd_31 (by decide) ?_
    have hq := Option.some.inj h
    clear h
    subst hq
    exact k_retI hx hb hr hlocks hP hD hS dX6_faultOfAdd_32
  · have h := (if_neg cc_3).symm.trans h
    refine lv_aload_n hx hb dX6_faultOfAdd_8 rfl (lv_at hl 0 rfl) ?_
    refine lv_iload_n hx hb dX6_faultOfAdd_9 rfl (lv_at hl 2 rfl) ?_
    obtain ⟨r_4, hc_5, h⟩ := ob_bind h
    refine k_callVIr (qb := 0) [0, 1] (As := [.int p2]) (rest := []) ⟨hx, hb, hml, hown, hts⟩ hT hZ hA hP hD hS (c_X6_isNode l D cI cZ cN aK aV qm qm_w qm_past qm_images qm_text qm_may qm_least qm_isCarried qm_list qm_nodes qm_kept qm_keptLow qm_keptHigh qm_keptNodes qm_numbers qm_sums qm_commands qm_held m_w m_pastMany m_filled m_length m_listMany m_went m_cost m_cause m_looks m_isSent m_isOld m_keptMany m_commandMany p2 r_4 hc_5) ⟨callB_of 1 hts (k_good u_832) rfl rfl rfl (hu _ u_51) (hu _ u_829) (by decide +kernel) ⟨Nat.le_of_ble_eq_true rfl, Nat.le_of_ble_eq_true rfl⟩, hu _ u_831, hu _ u_21⟩ rfl rfl rfl (by decide) rfl hl.1 rfl (Nat.le_of_ble_eq_true rfl) dX6_faultOfAdd_10 (fun H locs hP hD hS => ?_)
    refine lv_if_eq (tgt := 31) hx hb dX6_faultOfAdd_13 (by decide) (fun cc_6 => ?_) (fun cc_6 => ?_)
    · have h := (if_pos cc_6).symm.trans h
      refine lv_iconst (v := (-1 : Int32)) hx hb dX6_faultOfAdd_31 (by decide) ?_
      have hq := Option.some.inj h
      clear h
      subst hq
      exact k_retI hx hb hr hlocks hP hD hS dX6_faultOfAdd_32
    · have h := (if_neg cc_6).symm.trans h
      refine lv_iload_n hx hb dX6_faultOfAdd_16 rfl (lv_at hl 1 rfl) ?_
      refine lv_iload_n hx hb dX6_faultOfAdd_17 rfl (lv_at hl 2 rfl) ?_
      refine lv_icmp_eq (tgt := 31) hx hb dX6_faultOfAdd_18 (by decide) (fun cc_7 => ?_) (fun cc_7 => ?_)
      · have h := (if_pos cc_7).symm.trans h
        refine lv_iconst (v := (-1 : Int32)) hx hb dX6_faultOfAdd_31 (by decide) ?_
        have hq := Option.some.inj h
        clear h
        subst hq
        exact k_retI hx hb hr hlocks hP hD hS dX6_faultOfAdd_32
      · have h := (if_neg cc_7).symm.trans h
        refine lv_iload_n hx hb dX6_faultOfAdd_21 rfl (lv_at hl 3 rfl) ?_
        refine lv_iconst (v := (1 : Int32)) hx hb dX6_faultOfAdd_22 (by decide) ?_
        refine lv_bipush (v := (9 : Int32)) hx hb dX6_faultOfAdd_23 (by decide) ?_
        refine k_call0 (As := [.int p3, .int (1 : Int32), .int (9 : Int32)]) (rest := []) ⟨hx, hb, hml, hown, hts⟩ hT hZ hA hP hD hS (c_X6_isIn l D cI cZ cN aK aV p3 (1 : Int32) (9 : Int32) _ rfl) ⟨callB_of 3 hts (k_good u_812) rfl rfl rfl (hu _ u_51) (hu _ u_810) (by decide +kernel) ⟨Nat.le_of_ble_eq_true rfl, Nat.le_of_ble_eq_true rfl⟩, hu _ u_811⟩ rfl hl.1 rfl (Nat.le_of_ble_eq_true rfl) dX6_faultOfAdd_25 (fun H locs hP hD hS => ?_)
        refine lv_if_ne (tgt := 33) hx hb dX6_faultOfAdd_28 (by decide) (fun cc_8 => ?_) (fun cc_8 => ?_)
        · have h := (if_neg cc_8).symm.trans h
          refine lv_aload_n hx hb dX6_faultOfAdd_33 rfl (lv_at hl 0 rfl) ?_
          refine lv_iload_n hx hb dX6_faultOfAdd_34 rfl (lv_at hl 1 rfl) ?_
          refine lv_iload_n hx hb dX6_faultOfAdd_35 rfl (lv_at hl 2 rfl) ?_
          obtain ⟨r_9, hc_10, h⟩ := ob_bind h
          refine k_callVIr (qb := 0) [0, 1] (As := [.int p1, .int p2]) (rest := []) ⟨hx, hb, hml, hown, hts⟩ hT hZ hA hP hD hS (c_X6_linkOf l D cI cZ cN aK aV qm qm_w qm_past qm_images qm_text qm_may qm_least qm_isCarried qm_list qm_nodes qm_kept qm_keptLow qm_keptHigh qm_keptNodes qm_numbers qm_sums qm_commands qm_held m_w m_pastMany m_filled m_length m_listMany m_went m_cost m_cause m_looks m_isSent m_isOld m_keptMany m_commandMany p1 p2 r_9 hc_10) ⟨callB_of 2 hts (k_good u_836) rfl rfl rfl (hu _ u_51) (hu _ u_833) (by decide +kernel) ⟨Nat.le_of_ble_eq_true rfl, Nat.le_of_ble_eq_true rfl⟩, hu _ u_835, hu _ u_22⟩ rfl rfl rfl (by decide) rfl hl.1 rfl (Nat.le_of_ble_eq_true rfl) dX6_faultOfAdd_36 (fun H locs hP hD hS => ?_)
          refine lv_bipush (v := (-9 : Int32)) hx hb dX6_faultOfAdd_39 (by decide) ?_
          refine lv_icmp_eq (tgt := 47) hx hb dX6_faultOfAdd_41 (by decide) (fun cc_11 => ?_) (fun cc_11 => ?_)
          · have h := (if_pos cc_11).symm.trans h
            refine lv_aload_n hx hb dX6_faultOfAdd_47 rfl (lv_at hl 0 rfl) ?_
            refine va_get (D := D) (ci := 6) (v := .ref qm_w) (C := RX6) (T := TX6) (N := 29) hx hb hu k_iX6 hown hK hP 0 rfl rfl 0 (by decide) (hu _ u_718) (fun _ h9 => h9) rfl dX6_faultOfAdd_48 ?_
            refine lv_iconst (v := (1 : Int32)) hx hb dX6_faultOfAdd_51 (by decide) ?_
            refine va_iald (D := D) hx hb hK hP 1 0 rfl rfl (inb_in (by decide)) dX6_faultOfAdd_52 ?_
            refine lv_bipush (v := (18 : Int32)) hx hb dX6_faultOfAdd_53 (by decide) ?_
            refine lv_icmp_ne (tgt := 63) hx hb dX6_faultOfAdd_55 (by decide) (fun cc_12 => ?_) (fun cc_12 => ?_)
            · have h := (if_neg cc_12).symm.trans h
              refine lv_iconst (v := (0 : Int32)) hx hb dX6_faultOfAdd_63 (by decide) ?_
              have hq := Option.some.inj h
              clear h
              subst hq
              exact k_retI hx hb hr hlocks hP hD hS dX6_faultOfAdd_64
            · have h := (if_pos cc_12).symm.trans h
              refine lv_bipush (v := (-3 : Int32)) hx hb dX6_faultOfAdd_58 (by decide) ?_
              refine lv_goto (tgt := 64) hx hb dX6_faultOfAdd_60 (by decide) ?_
              have hq := Option.some.inj h
              clear h
              subst hq
              exact k_retI hx hb hr hlocks hP hD hS dX6_faultOfAdd_64
          · have h := (if_neg cc_11).symm.trans h
            refine lv_bipush (v := (-2 : Int32)) hx hb dX6_faultOfAdd_44 (by decide) ?_
            have hq := Option.some.inj h
            clear h
            subst hq
            exact k_retI hx hb hr hlocks hP hD hS dX6_faultOfAdd_46
        · have h := (if_pos cc_8).symm.trans h
          refine lv_iconst (v := (-1 : Int32)) hx hb dX6_faultOfAdd_31 (by decide) ?_
          have hq := Option.some.inj h
          clear h
          subst hq
          exact k_retI hx hb hr hlocks hP hD hS dX6_faultOfAdd_32
def f_X6_append_b47  (x3 : Int32) (x4 : Int32) (s0 : Int32) (s1 : Int32) (m_w : (Nat → Int32)) : Option ((Nat → Int32)) :=
  if inb s1 93 = true then
  if inb (x4 + (2 : Int32)) 93 = true then
  if inb (x4 + (3 : Int32)) 93 = true then
  if inb (x4 + (4 : Int32)) 93 = true then
  some ((upd (upd (upd (upd (upd m_w (Int32.toNatClampNeg s1) s0) (Int32.toNatClampNeg (x4 + (2 : Int32))) x3) (Int32.toNatClampNeg (x4 + (3 : Int32))) (1 : Int32)) (Int32.toNatClampNeg (x4 + (4 : Int32))) (1 : Int32)) (Int32.toNatClampNeg (1 : Int32)) (((upd (upd (upd (upd m_w (Int32.toNatClampNeg s1) s0) (Int32.toNatClampNeg (x4 + (2 : Int32))) x3) (Int32.toNatClampNeg (x4 + (3 : Int32))) (1 : Int32)) (Int32.toNatClampNeg (x4 + (4 : Int32))) (1 : Int32)) (Int32.toNatClampNeg (1 : Int32))) + (1 : Int32))))
  else none
  else none
  else none
  else none
def f_X6_append_b28  (x1 : Int32) (x2 : Int32) (x3 : Int32) (x4 : Int32) (s0 : Int32) (s1 : Int32) (m_w : (Nat → Int32)) : Option ((Nat → Int32)) :=
  if inb s1 93 = true then
  if x2 ≤ x1 then
    f_X6_append_b47  x3 x4 x1 (x4 + (1 : Int32)) (upd m_w (Int32.toNatClampNeg s1) s0)
  else
    f_X6_append_b47  x3 x4 x2 (x4 + (1 : Int32)) (upd m_w (Int32.toNatClampNeg s1) s0)
  else none
def f_X6_append (p1 : Int32) (p2 : Int32) (p3 : Int32) (m_w : (Nat → Int32)) : Option ((Nat → Int32)) :=
  if p2 ≤ p1 then
    f_X6_append_b28  p1 p2 p3 ((3 : Int32) + ((5 : Int32) * (m_w (Int32.toNatClampNeg (1 : Int32))))) p2 ((3 : Int32) + ((5 : Int32) * (m_w (Int32.toNatClampNeg (1 : Int32))))) m_w
  else
    f_X6_append_b28  p1 p2 p3 ((3 : Int32) + ((5 : Int32) * (m_w (Int32.toNatClampNeg (1 : Int32))))) p1 ((3 : Int32) + ((5 : Int32) * (m_w (Int32.toNatClampNeg (1 : Int32))))) m_w
set_option maxHeartbeats 4000000 in
set_option maxRecDepth 100000 in
theorem c_X6_append (l : Launch) (D : va_G) (cI cZ cN : ClassId) (aK aV : Nat → Nat)  (qm : Nat) (qm_w : Nat) (qm_past : Nat) (qm_images : Nat) (qm_text : Nat) (qm_may : Nat) (qm_least : Nat) (qm_isCarried : Nat) (qm_list : Nat) (qm_nodes : Nat) (qm_kept : Nat) (qm_keptLow : Nat) (qm_keptHigh : Nat) (qm_keptNodes : Nat) (qm_numbers : Nat) (qm_sums : Nat) (qm_commands : Nat) (qm_held : Nat) (m_w : (Nat → Int32)) (m_pastMany : Int32) (m_filled : Int32) (m_length : Int32) (m_listMany : Int32) (m_went : Int32) (m_cost : Int32) (m_cause : Int32) (m_looks : Int32) (m_isSent : Int32) (m_isOld : Int32) (m_keptMany : Int32) (m_commandMany : Int32) (p1 p2 p3 : Int32) (z_m_w : (Nat → Int32)) (h : f_X6_append p1 p2 p3 m_w = some z_m_w) : CtV l D cI cZ cN aK aV yX6_append (k_W yX6_append cX6_append 5 none) { frames := 0, cells := 0, slots := 0, locals := 0 } [.ref qm, .int p1, .int p2, .int p3] [(qm, .inr (6, [.ref qm_w, .ref qm_past, .int m_pastMany, .ref qm_images, .int m_filled, .ref qm_text, .int m_length, .ref qm_may, .ref qm_least, .ref qm_isCarried, .ref qm_list, .ref qm_nodes, .int m_listMany, .int m_went, .int m_cost, .int m_cause, .int m_looks, .int m_isSent, .int m_isOld, .ref qm_kept, .ref qm_keptLow, .ref qm_keptHigh, .int m_keptMany, .ref qm_keptNodes, .ref qm_numbers, .ref qm_sums, .ref qm_commands, .int m_commandMany, .ref qm_held])), (qm_w, .inl (cI, 93, .inl m_w))] [(qm, .inr (6, [.ref qm_w, .ref qm_past, .int m_pastMany, .ref qm_images, .int m_filled, .ref qm_text, .int m_length, .ref qm_may, .ref qm_least, .ref qm_isCarried, .ref qm_list, .ref qm_nodes, .int m_listMany, .int m_went, .int m_cost, .int m_cause, .int m_looks, .int m_isSent, .int m_isOld, .ref qm_kept, .ref qm_keptLow, .ref qm_keptHigh, .int m_keptMany, .ref qm_keptNodes, .ref qm_numbers, .ref qm_sums, .ref qm_commands, .int m_commandMany, .ref qm_held])), (qm_w, .inl (cI, 93, .inl z_m_w))] := by
  refine k_startV (by decide) (Nat.le_of_ble_eq_true rfl) ?_
  intro p e s m below meth c A ls hx hb hr hml hown hts hlocks hT hZ hA hP hD hS hl
  have hK := hT.1
  have hu : ∀ w ∈ k_U, w.before ([.ref qm, .int p1, .int p2, .int p3] : List Value).toArray s = true := fun w h => hts w (List.mem_cons_of_mem _ h)
  have hown : s.vm.findClass RX6 = some m.cls := hown
  have hl : lv_has ls 5 [(0, .ref qm), (1, .int p1), (2, .int p2), (3, .int p3)] := hl
  unfold f_X6_append at h
  have w28 : ∀  (x1 : Int32) (x2 : Int32) (x3 : Int32) (x4 : Int32) (s0 : Int32) (s1 : Int32) (m_w : (Nat → Int32)) (H : Heap) (locs : List Loc) (ls : Array Slot), va_P D vwCl [(qm, .inr (6, [.ref qm_w, .ref qm_past, .int m_pastMany, .ref qm_images, .int m_filled, .ref qm_text, .int m_length, .ref qm_may, .ref qm_least, .ref qm_isCarried, .ref qm_list, .ref qm_nodes, .int m_listMany, .int m_went, .int m_cost, .int m_cause, .int m_looks, .int m_isSent, .int m_isOld, .ref qm_kept, .ref qm_keptLow, .ref qm_keptHigh, .int m_keptMany, .ref qm_keptNodes, .ref qm_numbers, .ref qm_sums, .ref qm_commands, .int m_commandMany, .ref qm_held])), (qm_w, .inl (cI, 93, .inl m_w))] H → va_D A [(qm, .inr (6, [.ref qm_w, .ref qm_past, .int m_pastMany, .ref qm_images, .int m_filled, .ref qm_text, .int m_length, .ref qm_may, .ref qm_least, .ref qm_isCarried, .ref qm_list, .ref qm_nodes, .int m_listMany, .int m_went, .int m_cost, .int m_cause, .int m_looks, .int m_isSent, .int m_isOld, .ref qm_kept, .ref qm_keptLow, .ref qm_keptHigh, .int m_keptMany, .ref qm_keptNodes, .ref qm_numbers, .ref qm_sums, .ref qm_commands, .int m_commandMany, .ref qm_held])), (qm_w, .inl (cI, 93, .inl m_w))] → va_S A s.heap H locs → lv_has ls 5 [(0, .ref qm), (1, .int x1), (2, .int x2), (3, .int x3), (4, .int x4)] → f_X6_append_b28 x1 x2 x3 x4 s0 s1 m_w = some z_m_w → W p l e { frames := 0, cells := 0, slots := 0, locals := 0 } s m ([.ref qm, .int p1, .int p2, .int p3] : List Value).toArray below meth c H locs 0 0 (MQ below (k_QV D [(qm, .inr (6, [.ref qm_w, .ref qm_past, .int m_pastMany, .ref qm_images, .int m_filled, .ref qm_text, .int m_length, .ref qm_may, .ref qm_least, .ref qm_isCarried, .ref qm_list, .ref qm_nodes, .int m_listMany, .int m_went, .int m_cost, .int m_cause, .int m_looks, .int m_isSent, .int m_isOld, .ref qm_kept, .ref qm_keptLow, .ref qm_keptHigh, .int m_keptMany, .ref qm_keptNodes, .ref qm_numbers, .ref qm_sums, .ref qm_commands, .int m_commandMany, .ref qm_held])), (qm_w, .inl (cI, 93, .inl z_m_w))] A) ([.ref qm, .int p1, .int p2, .int p3] : List Value).toArray s 0 0 A) (F0 m 28 ls [.int s0, .int s1, .ref qm_w]) := by
    intro x1 x2 x3 x4 s0 s1 m_w H locs ls hP hD hS hl h
    unfold f_X6_append_b28 at h
    have w47 : ∀  (x3 : Int32) (x4 : Int32) (s0 : Int32) (s1 : Int32) (m_w : (Nat → Int32)) (H : Heap) (locs : List Loc) (ls : Array Slot), va_P D vwCl [(qm, .inr (6, [.ref qm_w, .ref qm_past, .int m_pastMany, .ref qm_images, .int m_filled, .ref qm_text, .int m_length, .ref qm_may, .ref qm_least, .ref qm_isCarried, .ref qm_list, .ref qm_nodes, .int m_listMany, .int m_went, .int m_cost, .int m_cause, .int m_looks, .int m_isSent, .int m_isOld, .ref qm_kept, .ref qm_keptLow, .ref qm_keptHigh, .int m_keptMany, .ref qm_keptNodes, .ref qm_numbers, .ref qm_sums, .ref qm_commands, .int m_commandMany, .ref qm_held])), (qm_w, .inl (cI, 93, .inl m_w))] H → va_D A [(qm, .inr (6, [.ref qm_w, .ref qm_past, .int m_pastMany, .ref qm_images, .int m_filled, .ref qm_text, .int m_length, .ref qm_may, .ref qm_least, .ref qm_isCarried, .ref qm_list, .ref qm_nodes, .int m_listMany, .int m_went, .int m_cost, .int m_cause, .int m_looks, .int m_isSent, .int m_isOld, .ref qm_kept, .ref qm_keptLow, .ref qm_keptHigh, .int m_keptMany, .ref qm_keptNodes, .ref qm_numbers, .ref qm_sums, .ref qm_commands, .int m_commandMany, .ref qm_held])), (qm_w, .inl (cI, 93, .inl m_w))] → va_S A s.heap H locs → lv_has ls 5 [(0, .ref qm), (3, .int x3), (4, .int x4)] → f_X6_append_b47 x3 x4 s0 s1 m_w = some z_m_w → W p l e { frames := 0, cells := 0, slots := 0, locals := 0 } s m ([.ref qm, .int p1, .int p2, .int p3] : List Value).toArray below meth c H locs 0 0 (MQ below (k_QV D [(qm, .inr (6, [.ref qm_w, .ref qm_past, .int m_pastMany, .ref qm_images, .int m_filled, .ref qm_text, .int m_length, .ref qm_may, .ref qm_least, .ref qm_isCarried, .ref qm_list, .ref qm_nodes, .int m_listMany, .int m_went, .int m_cost, .int m_cause, .int m_looks, .int m_isSent, .int m_isOld, .ref qm_kept, .ref qm_keptLow, .ref qm_keptHigh, .int m_keptMany, .ref qm_keptNodes, .ref qm_numbers, .ref qm_sums, .ref qm_commands, .int m_commandMany, .ref qm_held])), (qm_w, .inl (cI, 93, .inl z_m_w))] A) ([.ref qm, .int p1, .int p2, .int p3] : List Value).toArray s 0 0 A) (F0 m 47 ls [.int s0, .int s1, .ref qm_w]) := by
      intro x3 x4 s0 s1 m_w H locs ls hP hD hS hl h
      unfold f_X6_append_b47 at h
      obtain ⟨hin_4, h⟩ := ob_if h
      have hin_4 := inb_in hin_4
      refine va_iast (D := D) hx hb hK hP hD hS 1 0 rfl rfl hin_4 dX6_append_47 (fun H locs hP hD hS => ?_)
      have hP : va_P D vwCl [(qm, .inr (6, [.ref qm_w, .ref qm_past, .int m_pastMany, .ref qm_images, .int m_filled, .ref qm_text, .int m_length, .ref qm_may, .ref qm_least, .ref qm_isCarried, .ref qm_list, .ref qm_nodes, .int m_listMany, .int m_went, .int m_cost, .int m_cause, .int m_looks, .int m_isSent, .int m_isOld, .ref qm_kept, .ref qm_keptLow, .ref qm_keptHigh, .int m_keptMany, .ref qm_keptNodes, .ref qm_numbers, .ref qm_sums, .ref qm_commands, .int m_commandMany, .ref qm_held])), (qm_w, .inl (cI, 93, .inl (upd m_w (Int32.toNatClampNeg s1) s0)))] H := hP
      have hD : va_D A [(qm, .inr (6, [.ref qm_w, .ref qm_past, .int m_pastMany, .ref qm_images, .int m_filled, .ref qm_text, .int m_length, .ref qm_may, .ref qm_least, .ref qm_isCarried, .ref qm_list, .ref qm_nodes, .int m_listMany, .int m_went, .int m_cost, .int m_cause, .int m_looks, .int m_isSent, .int m_isOld, .ref qm_kept, .ref qm_keptLow, .ref qm_keptHigh, .int m_keptMany, .ref qm_keptNodes, .ref qm_numbers, .ref qm_sums, .ref qm_commands, .int m_commandMany, .ref qm_held])), (qm_w, .inl (cI, 93, .inl (upd m_w (Int32.toNatClampNeg s1) s0)))] := hD
      refine lv_aload_n hx hb dX6_append_48 rfl (lv_at hl 0 rfl) ?_
      refine va_get (D := D) (ci := 6) (v := .ref qm_w) (C := RX6) (T := TX6) (N := 29) hx hb hu k_iX6 hown hK hP 0 rfl rfl 0 (by decide) (hu _ u_718) (fun _ h9 => h9) rfl dX6_append_49 ?_
      refine lv_iload hx hb dX6_append_52 (lv_at hl 2 rfl) ?_
      refine lv_iconst (v := (2 : Int32)) hx hb dX6_append_54 (by decide) ?_
      refine lv_iadd hx hb dX6_append_55 ?_
      refine lv_iload_n hx hb dX6_append_56 rfl (lv_at hl 1 rfl) ?_
      obtain ⟨hin_5, h⟩ := ob_if h
      have hin_5 := inb_in hin_5
      refine va_iast (D := D) hx hb hK hP hD hS 1 0 rfl rfl hin_5 dX6_append_57 (fun H locs hP hD hS => ?_)
      have hP : va_P D vwCl [(qm, .inr (6, [.ref qm_w, .ref qm_past, .int m_pastMany, .ref qm_images, .int m_filled, .ref qm_text, .int m_length, .ref qm_may, .ref qm_least, .ref qm_isCarried, .ref qm_list, .ref qm_nodes, .int m_listMany, .int m_went, .int m_cost, .int m_cause, .int m_looks, .int m_isSent, .int m_isOld, .ref qm_kept, .ref qm_keptLow, .ref qm_keptHigh, .int m_keptMany, .ref qm_keptNodes, .ref qm_numbers, .ref qm_sums, .ref qm_commands, .int m_commandMany, .ref qm_held])), (qm_w, .inl (cI, 93, .inl (upd (upd m_w (Int32.toNatClampNeg s1) s0) (Int32.toNatClampNeg (x4 + (2 : Int32))) x3)))] H := hP
      have hD : va_D A [(qm, .inr (6, [.ref qm_w, .ref qm_past, .int m_pastMany, .ref qm_images, .int m_filled, .ref qm_text, .int m_length, .ref qm_may, .ref qm_least, .ref qm_isCarried, .ref qm_list, .ref qm_nodes, .int m_listMany, .int m_went, .int m_cost, .int m_cause, .int m_looks, .int m_isSent, .int m_isOld, .ref qm_kept, .ref qm_keptLow, .ref qm_keptHigh, .int m_keptMany, .ref qm_keptNodes, .ref qm_numbers, .ref qm_sums, .ref qm_commands, .int m_commandMany, .ref qm_held])), (qm_w, .inl (cI, 93, .inl (upd (upd m_w (Int32.toNatClampNeg s1) s0) (Int32.toNatClampNeg (x4 + (2 : Int32))) x3)))] := hD
      refine lv_aload_n hx hb dX6_append_58 rfl (lv_at hl 0 rfl) ?_
      refine va_get (D := D) (ci := 6) (v := .ref qm_w) (C := RX6) (T := TX6) (N := 29) hx hb hu k_iX6 hown hK hP 0 rfl rfl 0 (by decide) (hu _ u_718) (fun _ h9 => h9) rfl dX6_append_59 ?_
      refine lv_iload hx hb dX6_append_62 (lv_at hl 2 rfl) ?_
      refine lv_iconst (v := (3 : Int32)) hx hb dX6_append_64 (by decide) ?_
      refine lv_iadd hx hb dX6_append_65 ?_
      refine lv_iconst (v := (1 : Int32)) hx hb dX6_append_66 (by decide) ?_
      obtain ⟨hin_6, h⟩ := ob_if h
      have hin_6 := inb_in hin_6
      refine va_iast (D := D) hx hb hK hP hD hS 1 0 rfl rfl hin_6 dX6_append_67 (fun H locs hP hD hS => ?_)
      have hP : va_P D vwCl [(qm, .inr (6, [.ref qm_w, .ref qm_past, .int m_pastMany, .ref qm_images, .int m_filled, .ref qm_text, .int m_length, .ref qm_may, .ref qm_least, .ref qm_isCarried, .ref qm_list, .ref qm_nodes, .int m_listMany, .int m_went, .int m_cost, .int m_cause, .int m_looks, .int m_isSent, .int m_isOld, .ref qm_kept, .ref qm_keptLow, .ref qm_keptHigh, .int m_keptMany, .ref qm_keptNodes, .ref qm_numbers, .ref qm_sums, .ref qm_commands, .int m_commandMany, .ref qm_held])), (qm_w, .inl (cI, 93, .inl (upd (upd (upd m_w (Int32.toNatClampNeg s1) s0) (Int32.toNatClampNeg (x4 + (2 : Int32))) x3) (Int32.toNatClampNeg (x4 + (3 : Int32))) (1 : Int32))))] H := hP
      have hD : va_D A [(qm, .inr (6, [.ref qm_w, .ref qm_past, .int m_pastMany, .ref qm_images, .int m_filled, .ref qm_text, .int m_length, .ref qm_may, .ref qm_least, .ref qm_isCarried, .ref qm_list, .ref qm_nodes, .int m_listMany, .int m_went, .int m_cost, .int m_cause, .int m_looks, .int m_isSent, .int m_isOld, .ref qm_kept, .ref qm_keptLow, .ref qm_keptHigh, .int m_keptMany, .ref qm_keptNodes, .ref qm_numbers, .ref qm_sums, .ref qm_commands, .int m_commandMany, .ref qm_held])), (qm_w, .inl (cI, 93, .inl (upd (upd (upd m_w (Int32.toNatClampNeg s1) s0) (Int32.toNatClampNeg (x4 + (2 : Int32))) x3) (Int32.toNatClampNeg (x4 + (3 : Int32))) (1 : Int32))))] := hD
      refine lv_aload_n hx hb dX6_append_68 rfl (lv_at hl 0 rfl) ?_
      refine va_get (D := D) (ci := 6) (v := .ref qm_w) (C := RX6) (T := TX6) (N := 29) hx hb hu k_iX6 hown hK hP 0 rfl rfl 0 (by decide) (hu _ u_718) (fun _ h9 => h9) rfl dX6_append_69 ?_
      refine lv_iload hx hb dX6_append_72 (lv_at hl 2 rfl) ?_
      refine lv_iconst (v := (4 : Int32)) hx hb dX6_append_74 (by decide) ?_
      refine lv_iadd hx hb dX6_append_75 ?_
      refine lv_iconst (v := (1 : Int32)) hx hb dX6_append_76 (by decide) ?_
      obtain ⟨hin_7, h⟩ := ob_if h
      have hin_7 := inb_in hin_7
      refine va_iast (D := D) hx hb hK hP hD hS 1 0 rfl rfl hin_7 dX6_append_77 (fun H locs hP hD hS => ?_)
      have hP : va_P D vwCl [(qm, .inr (6, [.ref qm_w, .ref qm_past, .int m_pastMany, .ref qm_images, .int m_filled, .ref qm_text, .int m_length, .ref qm_may, .ref qm_least, .ref qm_isCarried, .ref qm_list, .ref qm_nodes, .int m_listMany, .int m_went, .int m_cost, .int m_cause, .int m_looks, .int m_isSent, .int m_isOld, .ref qm_kept, .ref qm_keptLow, .ref qm_keptHigh, .int m_keptMany, .ref qm_keptNodes, .ref qm_numbers, .ref qm_sums, .ref qm_commands, .int m_commandMany, .ref qm_held])), (qm_w, .inl (cI, 93, .inl (upd (upd (upd (upd m_w (Int32.toNatClampNeg s1) s0) (Int32.toNatClampNeg (x4 + (2 : Int32))) x3) (Int32.toNatClampNeg (x4 + (3 : Int32))) (1 : Int32)) (Int32.toNatClampNeg (x4 + (4 : Int32))) (1 : Int32))))] H := hP
      have hD : va_D A [(qm, .inr (6, [.ref qm_w, .ref qm_past, .int m_pastMany, .ref qm_images, .int m_filled, .ref qm_text, .int m_length, .ref qm_may, .ref qm_least, .ref qm_isCarried, .ref qm_list, .ref qm_nodes, .int m_listMany, .int m_went, .int m_cost, .int m_cause, .int m_looks, .int m_isSent, .int m_isOld, .ref qm_kept, .ref qm_keptLow, .ref qm_keptHigh, .int m_keptMany, .ref qm_keptNodes, .ref qm_numbers, .ref qm_sums, .ref qm_commands, .int m_commandMany, .ref qm_held])), (qm_w, .inl (cI, 93, .inl (upd (upd (upd (upd m_w (Int32.toNatClampNeg s1) s0) (Int32.toNatClampNeg (x4 + (2 : Int32))) x3) (Int32.toNatClampNeg (x4 + (3 : Int32))) (1 : Int32)) (Int32.toNatClampNeg (x4 + (4 : Int32))) (1 : Int32))))] := hD
      refine lv_aload_n hx hb dX6_append_78 rfl (lv_at hl 0 rfl) ?_
      refine va_get (D := D) (ci := 6) (v := .ref qm_w) (C := RX6) (T := TX6) (N := 29) hx hb hu k_iX6 hown hK hP 0 rfl rfl 0 (by decide) (hu _ u_718) (fun _ h9 => h9) rfl dX6_append_79 ?_
      refine lv_iconst (v := (1 : Int32)) hx hb dX6_append_82 (by decide) ?_
      refine lv_dup2_11 hx hb dX6_append_83 rfl rfl ?_
      refine va_iald (D := D) hx hb hK hP 1 0 rfl rfl (inb_in (by decide)) dX6_append_84 ?_
      refine lv_iconst (v := (1 : Int32)) hx hb dX6_append_85 (by decide) ?_
      refine lv_iadd hx hb dX6_append_86 ?_
      refine va_iast (D := D) hx hb hK hP hD hS 1 0 rfl rfl (inb_in (by decide)) dX6_append_87 (fun H locs hP hD hS => ?_)
      have hP : va_P D vwCl [(qm, .inr (6, [.ref qm_w, .ref qm_past, .int m_pastMany, .ref qm_images, .int m_filled, .ref qm_text, .int m_length, .ref qm_may, .ref qm_least, .ref qm_isCarried, .ref qm_list, .ref qm_nodes, .int m_listMany, .int m_went, .int m_cost, .int m_cause, .int m_looks, .int m_isSent, .int m_isOld, .ref qm_kept, .ref qm_keptLow, .ref qm_keptHigh, .int m_keptMany, .ref qm_keptNodes, .ref qm_numbers, .ref qm_sums, .ref qm_commands, .int m_commandMany, .ref qm_held])), (qm_w, .inl (cI, 93, .inl (upd (upd (upd (upd (upd m_w (Int32.toNatClampNeg s1) s0) (Int32.toNatClampNeg (x4 + (2 : Int32))) x3) (Int32.toNatClampNeg (x4 + (3 : Int32))) (1 : Int32)) (Int32.toNatClampNeg (x4 + (4 : Int32))) (1 : Int32)) (Int32.toNatClampNeg (1 : Int32)) (((upd (upd (upd (upd m_w (Int32.toNatClampNeg s1) s0) (Int32.toNatClampNeg (x4 + (2 : Int32))) x3) (Int32.toNatClampNeg (x4 + (3 : Int32))) (1 : Int32)) (Int32.toNatClampNeg (x4 + (4 : Int32))) (1 : Int32)) (Int32.toNatClampNeg (1 : Int32))) + (1 : Int32)))))] H := hP
      have hD : va_D A [(qm, .inr (6, [.ref qm_w, .ref qm_past, .int m_pastMany, .ref qm_images, .int m_filled, .ref qm_text, .int m_length, .ref qm_may, .ref qm_least, .ref qm_isCarried, .ref qm_list, .ref qm_nodes, .int m_listMany, .int m_went, .int m_cost, .int m_cause, .int m_looks, .int m_isSent, .int m_isOld, .ref qm_kept, .ref qm_keptLow, .ref qm_keptHigh, .int m_keptMany, .ref qm_keptNodes, .ref qm_numbers, .ref qm_sums, .ref qm_commands, .int m_commandMany, .ref qm_held])), (qm_w, .inl (cI, 93, .inl (upd (upd (upd (upd (upd m_w (Int32.toNatClampNeg s1) s0) (Int32.toNatClampNeg (x4 + (2 : Int32))) x3) (Int32.toNatClampNeg (x4 + (3 : Int32))) (1 : Int32)) (Int32.toNatClampNeg (x4 + (4 : Int32))) (1 : Int32)) (Int32.toNatClampNeg (1 : Int32)) (((upd (upd (upd (upd m_w (Int32.toNatClampNeg s1) s0) (Int32.toNatClampNeg (x4 + (2 : Int32))) x3) (Int32.toNatClampNeg (x4 + (3 : Int32))) (1 : Int32)) (Int32.toNatClampNeg (x4 + (4 : Int32))) (1 : Int32)) (Int32.toNatClampNeg (1 : Int32))) + (1 : Int32)))))] := hD
      have hq := Option.some.inj h
      clear h
      subst hq
      exact k_retV hx hb hr hlocks hP hD hS dX6_append_88
    obtain ⟨hin_2, h⟩ := ob_if h
    have hin_2 := inb_in hin_2
    refine va_iast (D := D) hx hb hK hP hD hS 1 0 rfl rfl hin_2 dX6_append_28 (fun H locs hP hD hS => ?_)
    have hP : va_P D vwCl [(qm, .inr (6, [.ref qm_w, .ref qm_past, .int m_pastMany, .ref qm_images, .int m_filled, .ref qm_text, .int m_length, .ref qm_may, .ref qm_least, .ref qm_isCarried, .ref qm_list, .ref qm_nodes, .int m_listMany, .int m_went, .int m_cost, .int m_cause, .int m_looks, .int m_isSent, .int m_isOld, .ref qm_kept, .ref qm_keptLow, .ref qm_keptHigh, .int m_keptMany, .ref qm_keptNodes, .ref qm_numbers, .ref qm_sums, .ref qm_commands, .int m_commandMany, .ref qm_held])), (qm_w, .inl (cI, 93, .inl (upd m_w (Int32.toNatClampNeg s1) s0)))] H := hP
    have hD : va_D A [(qm, .inr (6, [.ref qm_w, .ref qm_past, .int m_pastMany, .ref qm_images, .int m_filled, .ref qm_text, .int m_length, .ref qm_may, .ref qm_least, .ref qm_isCarried, .ref qm_list, .ref qm_nodes, .int m_listMany, .int m_went, .int m_cost, .int m_cause, .int m_looks, .int m_isSent, .int m_isOld, .ref qm_kept, .ref qm_keptLow, .ref qm_keptHigh, .int m_keptMany, .ref qm_keptNodes, .ref qm_numbers, .ref qm_sums, .ref qm_commands, .int m_commandMany, .ref qm_held])), (qm_w, .inl (cI, 93, .inl (upd m_w (Int32.toNatClampNeg s1) s0)))] := hD
    refine lv_aload_n hx hb dX6_append_29 rfl (lv_at hl 0 rfl) ?_
    refine va_get (D := D) (ci := 6) (v := .ref qm_w) (C := RX6) (T := TX6) (N := 29) hx hb hu k_iX6 hown hK hP 0 rfl rfl 0 (by decide) (hu _ u_718) (fun _ h9 => h9) rfl dX6_append_30 ?_
    refine lv_iload hx hb dX6_append_33 (lv_at hl 4 rfl) ?_
    refine lv_iconst (v := (1 : Int32)) hx hb dX6_append_35 (by decide) ?_
    refine lv_iadd hx hb dX6_append_36 ?_
    refine lv_iload_n hx hb dX6_append_37 rfl (lv_at hl 1 rfl) ?_
    refine lv_iload_n hx hb dX6_append_38 rfl (lv_at hl 2 rfl) ?_
    refine lv_icmp_ge (tgt := 46) hx hb dX6_append_39 (by decide) (fun cc_3 => ?_) (fun cc_3 => ?_)
    · have h := (if_pos cc_3).symm.trans h
      refine lv_iload_n hx hb dX6_append_46 rfl (lv_at hl 1 rfl) ?_
      exact w47 x3 x4 x1 (x4 + (1 : Int32)) (upd m_w (Int32.toNatClampNeg s1) s0) _ _ _ hP hD hS (lv_sub hl [0, 3, 4] rfl) h
    · have h := (if_neg cc_3).symm.trans h
      refine lv_iload_n hx hb dX6_append_42 rfl (lv_at hl 2 rfl) ?_
      refine lv_goto (tgt := 47) hx hb dX6_append_43 (by decide) ?_
      exact w47 x3 x4 x2 (x4 + (1 : Int32)) (upd m_w (Int32.toNatClampNeg s1) s0) _ _ _ hP hD hS (lv_sub hl [0, 3, 4] rfl) h
  refine lv_iconst (v := (3 : Int32)) hx hb dX6_append_0 (by decide) ?_
  refine lv_iconst (v := (5 : Int32)) hx hb dX6_append_1 (by decide) ?_
  refine lv_aload_n hx hb dX6_append_2 rfl (lv_at hl 0 rfl) ?_
  refine va_get (D := D) (ci := 6) (v := .ref qm_w) (C := RX6) (T := TX6) (N := 29) hx hb hu k_iX6 hown hK hP 0 rfl rfl 0 (by decide) (hu _ u_718) (fun _ h9 => h9) rfl dX6_append_3 ?_
  refine lv_iconst (v := (1 : Int32)) hx hb dX6_append_6 (by decide) ?_
  refine va_iald (D := D) hx hb hK hP 1 0 rfl rfl (inb_in (by decide)) dX6_append_7 ?_
  refine lv_imul hx hb dX6_append_8 ?_
  refine lv_iadd hx hb dX6_append_9 ?_
  refine lv_istore (lv' := [(4, .int ((3 : Int32) + ((5 : Int32) * (m_w (Int32.toNatClampNeg (1 : Int32)))))), (0, .ref qm), (1, .int p1), (2, .int p2), (3, .int p3)]) hx hb dX6_append_10 hl (by decide) rfl (fun ls hl => ?_)
  refine lv_aload_n hx hb dX6_append_12 rfl (lv_at hl 1 rfl) ?_
  refine va_get (D := D) (ci := 6) (v := .ref qm_w) (C := RX6) (T := TX6) (N := 29) hx hb hu k_iX6 hown hK hP 0 rfl rfl 0 (by decide) (hu _ u_718) (fun _ h9 => h9) rfl dX6_append_13 ?_
  refine lv_iload hx hb dX6_append_16 (lv_at hl 0 rfl) ?_
  refine lv_iload_n hx hb dX6_append_18 rfl (lv_at hl 2 rfl) ?_
  refine lv_iload_n hx hb dX6_append_19 rfl (lv_at hl 3 rfl) ?_
  refine lv_icmp_ge (tgt := 27) hx hb dX6_append_20 (by decide) (fun cc_1 => ?_) (fun cc_1 => ?_)
  · have h := (if_pos cc_1).symm.trans h
    refine lv_iload_n hx hb dX6_append_27 rfl (lv_at hl 3 rfl) ?_
    exact w28 p1 p2 p3 ((3 : Int32) + ((5 : Int32) * (m_w (Int32.toNatClampNeg (1 : Int32))))) p2 ((3 : Int32) + ((5 : Int32) * (m_w (Int32.toNatClampNeg (1 : Int32))))) m_w _ _ _ hP hD hS (lv_sub hl [1, 2, 3, 4, 0] rfl) h
  · have h := (if_neg cc_1).symm.trans h
    refine lv_iload_n hx hb dX6_append_23 rfl (lv_at hl 2 rfl) ?_
    refine lv_goto (tgt := 28) hx hb dX6_append_24 (by decide) ?_
    exact w28 p1 p2 p3 ((3 : Int32) + ((5 : Int32) * (m_w (Int32.toNatClampNeg (1 : Int32))))) p1 ((3 : Int32) + ((5 : Int32) * (m_w (Int32.toNatClampNeg (1 : Int32))))) m_w _ _ _ hP hD hS (lv_sub hl [1, 2, 3, 4, 0] rfl) h
def f_X6_begin (p1 : Int32) (m_w : (Nat → Int32)) (m_past : (Nat → Int32)) (m_pastMany : Int32) (m_isOld : Int32) : Option (Int32 × (Nat → Int32) × (Nat → Int32) × Int32 × Int32) :=
  if (f_X6_isIn p1 (2 : Int32) (9 : Int32)) = (0 : Int32) then
    some ((-1 : Int32), m_w, m_past, m_pastMany, m_isOld)
  else
    (f_X6_remember m_w m_past m_pastMany).bind fun ⟨o_2, o_3⟩ =>
    some ((m_w (Int32.toNatClampNeg (0 : Int32))), (upd (upd m_w (Int32.toNatClampNeg (0 : Int32)) p1) (Int32.toNatClampNeg (1 : Int32)) (0 : Int32)), o_2, o_3, (1 : Int32))
set_option maxHeartbeats 4000000 in
set_option maxRecDepth 100000 in
theorem c_X6_begin (l : Launch) (D : va_G) (cI cZ cN : ClassId) (aK aV : Nat → Nat)  (qm : Nat) (qm_w : Nat) (qm_past : Nat) (qm_images : Nat) (qm_text : Nat) (qm_may : Nat) (qm_least : Nat) (qm_isCarried : Nat) (qm_list : Nat) (qm_nodes : Nat) (qm_kept : Nat) (qm_keptLow : Nat) (qm_keptHigh : Nat) (qm_keptNodes : Nat) (qm_numbers : Nat) (qm_sums : Nat) (qm_commands : Nat) (qm_held : Nat) (m_w : (Nat → Int32)) (m_past : (Nat → Int32)) (m_pastMany : Int32) (m_filled : Int32) (m_length : Int32) (m_listMany : Int32) (m_went : Int32) (m_cost : Int32) (m_cause : Int32) (m_looks : Int32) (m_isSent : Int32) (m_isOld : Int32) (m_keptMany : Int32) (m_commandMany : Int32) (p1 : Int32) (r : Int32) (z_m_w : (Nat → Int32)) (z_m_past : (Nat → Int32)) (z_m_pastMany : Int32) (z_m_isOld : Int32) (h : f_X6_begin p1 m_w m_past m_pastMany m_isOld = some (r, z_m_w, z_m_past, z_m_pastMany, z_m_isOld)) : CtI l D cI cZ cN aK aV yX6_begin (k_W yX6_begin cX6_begin 3 (some .int)) { frames := 2, cells := 0, slots := 0, locals := 42 } [.ref qm, .int p1] [(qm, .inr (6, [.ref qm_w, .ref qm_past, .int m_pastMany, .ref qm_images, .int m_filled, .ref qm_text, .int m_length, .ref qm_may, .ref qm_least, .ref qm_isCarried, .ref qm_list, .ref qm_nodes, .int m_listMany, .int m_went, .int m_cost, .int m_cause, .int m_looks, .int m_isSent, .int m_isOld, .ref qm_kept, .ref qm_keptLow, .ref qm_keptHigh, .int m_keptMany, .ref qm_keptNodes, .ref qm_numbers, .ref qm_sums, .ref qm_commands, .int m_commandMany, .ref qm_held])), (qm_w, .inl (cI, 93, .inl m_w)), (qm_past, .inl (cI, 744, .inl m_past))] r [(qm, .inr (6, [.ref qm_w, .ref qm_past, .int z_m_pastMany, .ref qm_images, .int m_filled, .ref qm_text, .int m_length, .ref qm_may, .ref qm_least, .ref qm_isCarried, .ref qm_list, .ref qm_nodes, .int m_listMany, .int m_went, .int m_cost, .int m_cause, .int m_looks, .int m_isSent, .int z_m_isOld, .ref qm_kept, .ref qm_keptLow, .ref qm_keptHigh, .int m_keptMany, .ref qm_keptNodes, .ref qm_numbers, .ref qm_sums, .ref qm_commands, .int m_commandMany, .ref qm_held])), (qm_w, .inl (cI, 93, .inl z_m_w)), (qm_past, .inl (cI, 744, .inl z_m_past))] := by
  refine k_startI (by decide) (Nat.le_of_ble_eq_true rfl) ?_
  intro p e s m below meth c A ls hx hb hr hml hown hts hlocks hT hZ hA hP hD hS hl
  have hK := hT.1
  have hu : ∀ w ∈ k_U, w.before ([.ref qm, .int p1] : List Value).toArray s = true := fun w h => hts w (List.mem_cons_of_mem _ h)
  have hown : s.vm.findClass RX6 = some m.cls := hown
  have hl : lv_has ls 3 [(0, .ref qm), (1, .int p1)] := hl
  unfold f_X6_begin at h
  refine lv_iload_n hx hb dX6_begin_0 rfl (lv_at hl 1 rfl) ?_
  refine lv_iconst (v := (2 : Int32)) hx hb dX6_begin_1 (by decide) ?_
  refine lv_bipush (v := (9 : Int32)) hx hb dX6_begin_2 (by decide) ?_
  refine k_call0 (As := [.int p1, .int (2 : Int32), .int (9 : Int32)]) (rest := []) ⟨hx, hb, hml, hown, hts⟩ hT hZ hA hP hD hS (c_X6_isIn l D cI cZ cN aK aV p1 (2 : Int32) (9 : Int32) _ rfl) ⟨callB_of 3 hts (k_good u_812) rfl rfl rfl (hu _ u_51) (hu _ u_810) (by decide +kernel) ⟨Nat.le_of_ble_eq_true rfl, Nat.le_of_ble_eq_true rfl⟩, hu _ u_811⟩ rfl hl.1 rfl (Nat.le_of_ble_eq_true rfl) dX6_begin_4 (fun H locs hP hD hS => ?_)
  refine lv_if_ne (tgt := 12) hx hb dX6_begin_7 (by decide) (fun cc_1 => ?_) (fun cc_1 => ?_)
  · have h := (if_neg cc_1).symm.trans h
    refine lv_aload_n hx hb dX6_begin_12 rfl (lv_at hl 0 rfl) ?_
    obtain ⟨⟨o_2, o_3⟩, hc_4, h⟩ := ob_bind h
    dsimp only at h
    refine k_callVV (qb := 0) [0, 1, 2] [0, 2] [0, 2] [(qm, .inr (6, [.ref qm_w, .ref qm_past, .int o_3, .ref qm_images, .int m_filled, .ref qm_text, .int m_length, .ref qm_may, .ref qm_least, .ref qm_isCarried, .ref qm_list, .ref qm_nodes, .int m_listMany, .int m_went, .int m_cost, .int m_cause, .int m_looks, .int m_isSent, .int m_isOld, .ref qm_kept, .ref qm_keptLow, .ref qm_keptHigh, .int m_keptMany, .ref qm_keptNodes, .ref qm_numbers, .ref qm_sums, .ref qm_commands, .int m_commandMany, .ref qm_held])), (qm_past, .inl (cI, 744, .inl o_2))] (As := []) (rest := []) ⟨hx, hb, hml, hown, hts⟩ hT hZ hA hP hD hS (c_X6_remember l D cI cZ cN aK aV qm qm_w qm_past qm_images qm_text qm_may qm_least qm_isCarried qm_list qm_nodes qm_kept qm_keptLow qm_keptHigh qm_keptNodes qm_numbers qm_sums qm_commands qm_held m_w m_past m_pastMany m_filled m_length m_listMany m_went m_cost m_cause m_looks m_isSent m_isOld m_keptMany m_commandMany o_2 o_3 hc_4) ⟨callB_of 0 hts (k_good u_816) rfl rfl rfl (hu _ u_51) (hu _ u_813) (by decide +kernel) ⟨Nat.le_of_ble_eq_true rfl, Nat.le_of_ble_eq_true rfl⟩, hu _ u_815, hu _ u_18⟩ rfl rfl rfl (by decide) (by decide) (by decide) rfl rfl rfl rfl hl.1 rfl (Nat.le_of_ble_eq_true rfl) dX6_begin_13 (fun H locs hP hD hS => ?_)
    have hP : va_P D vwCl [(qm, .inr (6, [.ref qm_w, .ref qm_past, .int o_3, .ref qm_images, .int m_filled, .ref qm_text, .int m_length, .ref qm_may, .ref qm_least, .ref qm_isCarried, .ref qm_list, .ref qm_nodes, .int m_listMany, .int m_went, .int m_cost, .int m_cause, .int m_looks, .int m_isSent, .int m_isOld, .ref qm_kept, .ref qm_keptLow, .ref qm_keptHigh, .int m_keptMany, .ref qm_keptNodes, .ref qm_numbers, .ref qm_sums, .ref qm_commands, .int m_commandMany, .ref qm_held])), (qm_w, .inl (cI, 93, .inl m_w)), (qm_past, .inl (cI, 744, .inl o_2))] H := hP
    have hD : va_D A [(qm, .inr (6, [.ref qm_w, .ref qm_past, .int o_3, .ref qm_images, .int m_filled, .ref qm_text, .int m_length, .ref qm_may, .ref qm_least, .ref qm_isCarried, .ref qm_list, .ref qm_nodes, .int m_listMany, .int m_went, .int m_cost, .int m_cause, .int m_looks, .int m_isSent, .int m_isOld, .ref qm_kept, .ref qm_keptLow, .ref qm_keptHigh, .int m_keptMany, .ref qm_keptNodes, .ref qm_numbers, .ref qm_sums, .ref qm_commands, .int m_commandMany, .ref qm_held])), (qm_w, .inl (cI, 93, .inl m_w)), (qm_past, .inl (cI, 744, .inl o_2))] := hD
    refine lv_aload_n hx hb dX6_begin_16 rfl (lv_at hl 0 rfl) ?_
    refine va_get (D := D) (ci := 6) (v := .ref qm_w) (C := RX6) (T := TX6) (N := 29) hx hb hu k_iX6 hown hK hP 0 rfl rfl 0 (by decide) (hu _ u_718) (fun _ h9 => h9) rfl dX6_begin_17 ?_
    refine lv_iconst (v := (0 : Int32)) hx hb dX6_begin_20 (by decide) ?_
    refine va_iald (D := D) hx hb hK hP 1 0 rfl rfl (inb_in (by decide)) dX6_begin_21 ?_
    refine lv_istore_n (lv' := [(2, .int (m_w (Int32.toNatClampNeg (0 : Int32)))), (0, .ref qm), (1, .int p1)]) hx hb dX6_begin_22 rfl hl (by decide) rfl (fun ls hl => ?_)
    refine lv_aload_n hx hb dX6_begin_23 rfl (lv_at hl 1 rfl) ?_
    refine va_get (D := D) (ci := 6) (v := .ref qm_w) (C := RX6) (T := TX6) (N := 29) hx hb hu k_iX6 hown hK hP 0 rfl rfl 0 (by decide) (hu _ u_718) (fun _ h9 => h9) rfl dX6_begin_24 ?_
    refine lv_iconst (v := (0 : Int32)) hx hb dX6_begin_27 (by decide) ?_
    refine lv_iload_n hx hb dX6_begin_28 rfl (lv_at hl 2 rfl) ?_
    refine va_iast (D := D) hx hb hK hP hD hS 1 0 rfl rfl (inb_in (by decide)) dX6_begin_29 (fun H locs hP hD hS => ?_)
    have hP : va_P D vwCl [(qm, .inr (6, [.ref qm_w, .ref qm_past, .int o_3, .ref qm_images, .int m_filled, .ref qm_text, .int m_length, .ref qm_may, .ref qm_least, .ref qm_isCarried, .ref qm_list, .ref qm_nodes, .int m_listMany, .int m_went, .int m_cost, .int m_cause, .int m_looks, .int m_isSent, .int m_isOld, .ref qm_kept, .ref qm_keptLow, .ref qm_keptHigh, .int m_keptMany, .ref qm_keptNodes, .ref qm_numbers, .ref qm_sums, .ref qm_commands, .int m_commandMany, .ref qm_held])), (qm_w, .inl (cI, 93, .inl (upd m_w (Int32.toNatClampNeg (0 : Int32)) p1))), (qm_past, .inl (cI, 744, .inl o_2))] H := hP
    have hD : va_D A [(qm, .inr (6, [.ref qm_w, .ref qm_past, .int o_3, .ref qm_images, .int m_filled, .ref qm_text, .int m_length, .ref qm_may, .ref qm_least, .ref qm_isCarried, .ref qm_list, .ref qm_nodes, .int m_listMany, .int m_went, .int m_cost, .int m_cause, .int m_looks, .int m_isSent, .int m_isOld, .ref qm_kept, .ref qm_keptLow, .ref qm_keptHigh, .int m_keptMany, .ref qm_keptNodes, .ref qm_numbers, .ref qm_sums, .ref qm_commands, .int m_commandMany, .ref qm_held])), (qm_w, .inl (cI, 93, .inl (upd m_w (Int32.toNatClampNeg (0 : Int32)) p1))), (qm_past, .inl (cI, 744, .inl o_2))] := hD
    refine lv_aload_n hx hb dX6_begin_30 rfl (lv_at hl 1 rfl) ?_
    refine va_get (D := D) (ci := 6) (v := .ref qm_w) (C := RX6) (T := TX6) (N := 29) hx hb hu k_iX6 hown hK hP 0 rfl rfl 0 (by decide) (hu _ u_718) (fun _ h9 => h9) rfl dX6_begin_31 ?_
    refine lv_iconst (v := (1 : Int32)) hx hb dX6_begin_34 (by decide) ?_
    refine lv_iconst (v := (0 : Int32)) hx hb dX6_begin_35 (by decide) ?_
    refine va_iast (D := D) hx hb hK hP hD hS 1 0 rfl rfl (inb_in (by decide)) dX6_begin_36 (fun H locs hP hD hS => ?_)
    have hP : va_P D vwCl [(qm, .inr (6, [.ref qm_w, .ref qm_past, .int o_3, .ref qm_images, .int m_filled, .ref qm_text, .int m_length, .ref qm_may, .ref qm_least, .ref qm_isCarried, .ref qm_list, .ref qm_nodes, .int m_listMany, .int m_went, .int m_cost, .int m_cause, .int m_looks, .int m_isSent, .int m_isOld, .ref qm_kept, .ref qm_keptLow, .ref qm_keptHigh, .int m_keptMany, .ref qm_keptNodes, .ref qm_numbers, .ref qm_sums, .ref qm_commands, .int m_commandMany, .ref qm_held])), (qm_w, .inl (cI, 93, .inl (upd (upd m_w (Int32.toNatClampNeg (0 : Int32)) p1) (Int32.toNatClampNeg (1 : Int32)) (0 : Int32)))), (qm_past, .inl (cI, 744, .inl o_2))] H := hP
    have hD : va_D A [(qm, .inr (6, [.ref qm_w, .ref qm_past, .int o_3, .ref qm_images, .int m_filled, .ref qm_text, .int m_length, .ref qm_may, .ref qm_least, .ref qm_isCarried, .ref qm_list, .ref qm_nodes, .int m_listMany, .int m_went, .int m_cost, .int m_cause, .int m_looks, .int m_isSent, .int m_isOld, .ref qm_kept, .ref qm_keptLow, .ref qm_keptHigh, .int m_keptMany, .ref qm_keptNodes, .ref qm_numbers, .ref qm_sums, .ref qm_commands, .int m_commandMany, .ref qm_held])), (qm_w, .inl (cI, 93, .inl (upd (upd m_w (Int32.toNatClampNeg (0 : Int32)) p1) (Int32.toNatClampNeg (1 : Int32)) (0 : Int32)))), (qm_past, .inl (cI, 744, .inl o_2))] := hD
    refine lv_aload_n hx hb dX6_begin_37 rfl (lv_at hl 1 rfl) ?_
    refine lv_iconst (v := (1 : Int32)) hx hb dX6_begin_38 (by decide) ?_
    refine va_put (D := D) (ci := 6) (v := .int (1 : Int32)) (ty := .boolean) (C := RX6) (T := TX6) (N := 29) hx hb hu k_iX6 tyX6 tyX6_ok nmX6 hown hK hP hD hS 0 rfl rfl 18 (by decide) (hu _ u_736) (fun _ h9 => h9) rfl (by decide +kernel) rfl rfl (Nat.le_of_ble_eq_true rfl) dX6_begin_39 (fun H locs hP hD hS => ?_)
    have hP : va_P D vwCl [(qm, .inr (6, [.ref qm_w, .ref qm_past, .int o_3, .ref qm_images, .int m_filled, .ref qm_text, .int m_length, .ref qm_may, .ref qm_least, .ref qm_isCarried, .ref qm_list, .ref qm_nodes, .int m_listMany, .int m_went, .int m_cost, .int m_cause, .int m_looks, .int m_isSent, .int (1 : Int32), .ref qm_kept, .ref qm_keptLow, .ref qm_keptHigh, .int m_keptMany, .ref qm_keptNodes, .ref qm_numbers, .ref qm_sums, .ref qm_commands, .int m_commandMany, .ref qm_held])), (qm_w, .inl (cI, 93, .inl (upd (upd m_w (Int32.toNatClampNeg (0 : Int32)) p1) (Int32.toNatClampNeg (1 : Int32)) (0 : Int32)))), (qm_past, .inl (cI, 744, .inl o_2))] H := hP
    have hD : va_D A [(qm, .inr (6, [.ref qm_w, .ref qm_past, .int o_3, .ref qm_images, .int m_filled, .ref qm_text, .int m_length, .ref qm_may, .ref qm_least, .ref qm_isCarried, .ref qm_list, .ref qm_nodes, .int m_listMany, .int m_went, .int m_cost, .int m_cause, .int m_looks, .int m_isSent, .int (1 : Int32), .ref qm_kept, .ref qm_keptLow, .ref qm_keptHigh, .int m_keptMany, .ref qm_keptNodes, .ref qm_numbers, .ref qm_sums, .ref qm_commands, .int m_commandMany, .ref qm_held])), (qm_w, .inl (cI, 93, .inl (upd (upd m_w (Int32.toNatClampNeg (0 : Int32)) p1) (Int32.toNatClampNeg (1 : Int32)) (0 : Int32)))), (qm_past, .inl (cI, 744, .inl o_2))] := hD
    refine lv_iload_n hx hb dX6_begin_42 rfl (lv_at hl 0 rfl) ?_
    have hq := Option.some.inj h
    clear h
    obtain ⟨e0, hq0⟩ := Prod.mk.inj hq
    clear hq
    obtain ⟨e1, hq1⟩ := Prod.mk.inj hq0
    clear hq0
    obtain ⟨e2, hq2⟩ := Prod.mk.inj hq1
    clear hq1
    obtain ⟨e3, hq3⟩ := Prod.mk.inj hq2
    clear hq2
    subst e0
    subst e1
    subst e2
    subst e3
    subst hq3
    exact k_retI hx hb hr hlocks hP hD hS dX6_begin_43
  · have h := (if_pos cc_1).symm.trans h
    refine lv_iconst (v := (-1 : Int32)) hx hb dX6_begin_10 (by decide) ?_
    have hq := Option.some.inj h
    clear h
    obtain ⟨e0, hq0⟩ := Prod.mk.inj hq
    clear hq
    obtain ⟨e1, hq1⟩ := Prod.mk.inj hq0
    clear hq0
    obtain ⟨e2, hq2⟩ := Prod.mk.inj hq1
    clear hq1
    obtain ⟨e3, hq3⟩ := Prod.mk.inj hq2
    clear hq2
    subst e0
    subst e1
    subst e2
    subst e3
    subst hq3
    exact k_retI hx hb hr hlocks hP hD hS dX6_begin_11
