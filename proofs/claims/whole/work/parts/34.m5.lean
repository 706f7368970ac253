def f_X6_goOn_b41 (k3 : Int32 → Int32 → Int32 → Int32 → Int32 → (Nat → Int32) → (Nat → Int32) → (Nat → Int32) → (Nat → Int32) → (Nat → Int32) → Int32 → Int32 → Int32 → Option (Int32 × (Nat → Int32) × (Nat → Int32) × (Nat → Int32) × (Nat → Int32) × Int32 × Int32 × Int32)) (x1 : Int32) (x2 : Int32) (x3 : Int32) (x4 : Int32) (x5 : Int32) (s0 : Int32) (m_w : (Nat → Int32)) (m_may : (Nat → Int32)) (m_least : (Nat → Int32)) (m_isCarried : (Nat → Int32)) (m_list : (Nat → Int32)) (m_listMany : Int32) (m_cause : Int32) (m_looks : Int32) : Option (Int32 × (Nat → Int32) × (Nat → Int32) × (Nat → Int32) × (Nat → Int32) × Int32 × Int32 × Int32) :=
  (f_X6_of x5 (4 : Int32) m_w).bind fun r_20 =>
  if r_20 = (1 : Int32) then
    if x3 = (0 : Int32) then
      if inb x5 18 = true then
      if (m_isCarried (Int32.toNatClampNeg x5)) = (0 : Int32) then
        k3 x1 x2 x3 x4 (x5 + (1 : Int32)) m_w (upd m_may (Int32.toNatClampNeg x5) (1 : Int32)) m_least m_isCarried m_list m_listMany m_cause m_looks
      else
        k3 x1 x2 x3 x4 (x5 + (1 : Int32)) m_w (upd m_may (Int32.toNatClampNeg x5) (0 : Int32)) m_least m_isCarried m_list m_listMany m_cause m_looks
      else none
    else
      if s0 = (0 : Int32) then
        if inb x5 18 = true then
        k3 x1 x2 x3 x4 (x5 + (1 : Int32)) m_w (upd m_may (Int32.toNatClampNeg x5) (1 : Int32)) m_least m_isCarried m_list m_listMany m_cause m_looks
        else none
      else
        if inb x5 18 = true then
        k3 x1 x2 x3 x4 (x5 + (1 : Int32)) m_w (upd m_may (Int32.toNatClampNeg x5) (0 : Int32)) m_least m_isCarried m_list m_listMany m_cause m_looks
        else none
  else
    if inb x5 18 = true then
    k3 x1 x2 x3 x4 (x5 + (1 : Int32)) m_w (upd m_may (Int32.toNatClampNeg x5) (0 : Int32)) m_least m_isCarried m_list m_listMany m_cause m_looks
    else none
def f_X6_goOn_b3  : Nat → Int32 → Int32 → Int32 → Int32 → Int32 → (Nat → Int32) → (Nat → Int32) → (Nat → Int32) → (Nat → Int32) → (Nat → Int32) → Int32 → Int32 → Int32 → Option (Int32 × (Nat → Int32) × (Nat → Int32) × (Nat → Int32) × (Nat → Int32) × Int32 × Int32 × Int32)
  | 0, _, _, _, _, _, _, _, _, _, _, _, _, _ => none
  | n + 1, x1, x2, x3, x4, x5, m_w, m_may, m_least, m_isCarried, m_list, m_listMany, m_cause, m_looks =>
    if (m_w (Int32.toNatClampNeg (1 : Int32))) ≤ x5 then
      (f_X6_layLeast x2 m_w m_may m_least).bind fun o_2 =>
      if inb x1 9 = true then
      if (o_2 (Int32.toNatClampNeg x1)) = (1000000 : Int32) then
        some ((-9 : Int32), m_may, o_2, m_isCarried, m_list, m_listMany, (1 : Int32), (m_looks + (1 : Int32)))
      else
        (f_X6_firstLink x1 m_w m_may o_2).bind fun r_6 =>
        (f_X6_of r_6 (3 : Int32) m_w).bind fun r_8 =>
        if r_8 = (1 : Int32) then
          some (r_6, m_may, o_2, m_isCarried, m_list, m_listMany, m_cause, (m_looks + (1 : Int32)))
        else
          if m_listMany = x4 then
            some ((-9 : Int32), m_may, o_2, m_isCarried, m_list, m_listMany, (2 : Int32), (m_looks + (1 : Int32)))
          else
            if inb r_6 18 = true then
            if inb m_listMany 18 = true then
            some ((-9 : Int32), m_may, o_2, (upd m_isCarried (Int32.toNatClampNeg r_6) (1 : Int32)), (upd m_list (Int32.toNatClampNeg m_listMany) r_6), (m_listMany + (1 : Int32)), m_cause, (m_looks + (1 : Int32)))
            else none
            else none
      else none
    else
      (f_X6_of x5 (3 : Int32) m_w).bind fun r_14 =>
      if r_14 = (0 : Int32) then
        (f_X6_otherEnd x5 x1 m_w).bind fun r_17 =>
        if r_17 = (-9 : Int32) then
          f_X6_goOn_b41 (f_X6_goOn_b3 n) x1 x2 x3 x4 x5 (0 : Int32) m_w m_may m_least m_isCarried m_list m_listMany m_cause m_looks
        else
          f_X6_goOn_b41 (f_X6_goOn_b3 n) x1 x2 x3 x4 x5 (1 : Int32) m_w m_may m_least m_isCarried m_list m_listMany m_cause m_looks
      else
        f_X6_goOn_b41 (f_X6_goOn_b3 n) x1 x2 x3 x4 x5 (0 : Int32) m_w m_may m_least m_isCarried m_list m_listMany m_cause m_looks
def f_X6_goOn (p1 : Int32) (p2 : Int32) (p3 : Int32) (p4 : Int32) (m_w : (Nat → Int32)) (m_may : (Nat → Int32)) (m_least : (Nat → Int32)) (m_isCarried : (Nat → Int32)) (m_list : (Nat → Int32)) (m_listMany : Int32) (m_cause : Int32) (m_looks : Int32) : Option (Int32 × (Nat → Int32) × (Nat → Int32) × (Nat → Int32) × (Nat → Int32) × Int32 × Int32 × Int32) :=
  f_X6_goOn_b3 1000 p1 p2 p3 p4 (0 : Int32) m_w m_may m_least m_isCarried m_list m_listMany m_cause m_looks
set_option maxHeartbeats 4000000 in
set_option maxRecDepth 100000 in
theorem c_X6_goOn (l : Launch) (D : va_G) (cI cZ cN : ClassId) (aK aV : Nat → Nat)  (qm : Nat) (qm_w : Nat) (qm_past : Nat) (qm_images : Nat) (qm_text : Nat) (qm_may : Nat) (qm_least : Nat) (qm_isCarried : Nat) (qm_list : Nat) (qm_nodes : Nat) (qm_kept : Nat) (qm_keptLow : Nat) (qm_keptHigh : Nat) (qm_keptNodes : Nat) (qm_numbers : Nat) (qm_sums : Nat) (qm_commands : Nat) (qm_held : Nat) (m_w : (Nat → Int32)) (m_pastMany : Int32) (m_filled : Int32) (m_length : Int32) (m_may : (Nat → Int32)) (m_least : (Nat → Int32)) (m_isCarried : (Nat → Int32)) (m_list : (Nat → Int32)) (m_listMany : Int32) (m_went : Int32) (m_cost : Int32) (m_cause : Int32) (m_looks : Int32) (m_isSent : Int32) (m_isOld : Int32) (m_keptMany : Int32) (m_commandMany : Int32) (p1 p2 p3 p4 : Int32) (r : Int32) (z_m_may : (Nat → Int32)) (z_m_least : (Nat → Int32)) (z_m_isCarried : (Nat → Int32)) (z_m_list : (Nat → Int32)) (z_m_listMany : Int32) (z_m_cause : Int32) (z_m_looks : Int32) (h : f_X6_goOn p1 p2 p3 p4 m_w m_may m_least m_isCarried m_list m_listMany m_cause m_looks = some (r, z_m_may, z_m_least, z_m_isCarried, z_m_list, z_m_listMany, z_m_cause, z_m_looks)) : CtI l D cI cZ cN aK aV yX6_goOn (k_W yX6_goOn cX6_goOn 7 (some .int)) { frames := 3, cells := 0, slots := 0, locals := 68 } [.ref qm, .int p1, .int p2, .int p3, .int p4] [(qm, .inr (6, [.ref qm_w, .ref qm_past, .int m_pastMany, .ref qm_images, .int m_filled, .ref qm_text, .int m_length, .ref qm_may, .ref qm_least, .ref qm_isCarried, .ref qm_list, .ref qm_nodes, .int m_listMany, .int m_went, .int m_cost, .int m_cause, .int m_looks, .int m_isSent, .int m_isOld, .ref qm_kept, .ref qm_keptLow, .ref qm_keptHigh, .int m_keptMany, .ref qm_keptNodes, .ref qm_numbers, .ref qm_sums, .ref qm_commands, .int m_commandMany, .ref qm_held])), (qm_w, .inl (cI, 93, .inl m_w)), (qm_may, .inl (cZ, 18, .inl m_may)), (qm_least, .inl (cI, 9, .inl m_least)), (qm_isCarried, .inl (cZ, 18, .inl m_isCarried)), (qm_list, .inl (cI, 18, .inl m_list))] r [(qm, .inr (6, [.ref qm_w, .ref qm_past, .int m_pastMany, .ref qm_images, .int m_filled, .ref qm_text, .int m_length, .ref qm_may, .ref qm_least, .ref qm_isCarried, .ref qm_list, .ref qm_nodes, .int z_m_listMany, .int m_went, .int m_cost, .int z_m_cause, .int z_m_looks, .int m_isSent, .int m_isOld, .ref qm_kept, .ref qm_keptLow, .ref qm_keptHigh, .int m_keptMany, .ref qm_keptNodes, .ref qm_numbers, .ref qm_sums, .ref qm_commands, .int m_commandMany, .ref qm_held])), (qm_w, .inl (cI, 93, .inl m_w)), (qm_may, .inl (cZ, 18, .inl z_m_may)), (qm_least, .inl (cI, 9, .inl z_m_least)), (qm_isCarried, .inl (cZ, 18, .inl z_m_isCarried)), (qm_list, .inl (cI, 18, .inl z_m_list))] := by
  refine k_startI (by decide) (Nat.le_of_ble_eq_true rfl) ?_
  intro p e s m below meth c A ls hx hb hr hml hown hts hlocks hT hZ hA hP hD hS hl
  have hK := hT.1
  have hu : ∀ w ∈ k_U, w.before ([.ref qm, .int p1, .int p2, .int p3, .int p4] : List Value).toArray s = true := fun w h => hts w (List.mem_cons_of_mem _ h)
  have hown : s.vm.findClass RX6 = some m.cls := hown
  have hl : lv_has ls 7 [(0, .ref qm), (1, .int p1), (2, .int p2), (3, .int p3), (4, .int p4)] := hl
  unfold f_X6_goOn at h
  have w3 : ∀ (n3 : Nat) (x1 : Int32) (x2 : Int32) (x3 : Int32) (x4 : Int32) (x5 : Int32) (m_w : (Nat → Int32)) (m_may : (Nat → Int32)) (m_least : (Nat → Int32)) (m_isCarried : (Nat → Int32)) (m_list : (Nat → Int32)) (m_listMany : Int32) (m_cause : Int32) (m_looks : Int32) (H : Heap) (locs : List Loc) (ls : Array Slot), va_P D vwCl [(qm, .inr (6, [.ref qm_w, .ref qm_past, .int m_pastMany, .ref qm_images, .int m_filled, .ref qm_text, .int m_length, .ref qm_may, .ref qm_least, .ref qm_isCarried, .ref qm_list, .ref qm_nodes, .int m_listMany, .int m_went, .int m_cost, .int m_cause, .int m_looks, .int m_isSent, .int m_isOld, .ref qm_kept, .ref qm_keptLow, .ref qm_keptHigh, .int m_keptMany, .ref qm_keptNodes, .ref qm_numbers, .ref qm_sums, .ref qm_commands, .int m_commandMany, .ref qm_held])), (qm_w, .inl (cI, 93, .inl m_w)), (qm_may, .inl (cZ, 18, .inl m_may)), (qm_least, .inl (cI, 9, .inl m_least)), (qm_isCarried, .inl (cZ, 18, .inl m_isCarried)), (qm_list, .inl (cI, 18, .inl m_list))] H → va_D A [(qm, .inr (6, [.ref qm_w, .ref qm_past, .int m_pastMany, .ref qm_images, .int m_filled, .ref qm_text, .int m_length, .ref qm_may, .ref qm_least, .ref qm_isCarried, .ref qm_list, .ref qm_nodes, .int m_listMany, .int m_went, .int m_cost, .int m_cause, .int m_looks, .int m_isSent, .int m_isOld, .ref qm_kept, .ref qm_keptLow, .ref qm_keptHigh, .int m_keptMany, .ref qm_keptNodes, .ref qm_numbers, .ref qm_sums, .ref qm_commands, .int m_commandMany, .ref qm_held])), (qm_w, .inl (cI, 93, .inl m_w)), (qm_may, .inl (cZ, 18, .inl m_may)), (qm_least, .inl (cI, 9, .inl m_least)), (qm_isCarried, .inl (cZ, 18, .inl m_isCarried)), (qm_list, .inl (cI, 18, .inl m_list))] → va_S A s.heap H locs → lv_has ls 7 [(0, .ref qm), (1, .int x1), (2, .int x2), (3, .int x3), (4, .int x4), (5, .int x5)] → f_X6_goOn_b3 n3 x1 x2 x3 x4 x5 m_w m_may m_least m_isCarried m_list m_listMany m_cause m_looks = some (r, z_m_may, z_m_least, z_m_isCarried, z_m_list, z_m_listMany, z_m_cause, z_m_looks) → W p l e { frames := 3, cells := 0, slots := 0, locals := 68 } s m ([.ref qm, .int p1, .int p2, .int p3, .int p4] : List Value).toArray below meth c H locs 0 0 (MQ below (k_QI D r [(qm, .inr (6, [.ref qm_w, .ref qm_past, .int m_pastMany, .ref qm_images, .int m_filled, .ref qm_text, .int m_length, .ref qm_may, .ref qm_least, .ref qm_isCarried, .ref qm_list, .ref qm_nodes, .int z_m_listMany, .int m_went, .int m_cost, .int z_m_cause, .int z_m_looks, .int m_isSent, .int m_isOld, .ref qm_kept, .ref qm_keptLow, .ref qm_keptHigh, .int m_keptMany, .ref qm_keptNodes, .ref qm_numbers, .ref qm_sums, .ref qm_commands, .int m_commandMany, .ref qm_held])), (qm_w, .inl (cI, 93, .inl m_w)), (qm_may, .inl (cZ, 18, .inl z_m_may)), (qm_least, .inl (cI, 9, .inl z_m_least)), (qm_isCarried, .inl (cZ, 18, .inl z_m_isCarried)), (qm_list, .inl (cI, 18, .inl z_m_list))] A) ([.ref qm, .int p1, .int p2, .int p3, .int p4] : List Value).toArray s 0 0 A) (F0 m 3 ls []) := by
    intro n3
    induction n3 with
    | zero =>
      intro x1 x2 x3 x4 x5 m_w m_may m_least m_isCarried m_list m_listMany m_cause m_looks H locs ls hP hD hS hl h
      rw [f_X6_goOn_b3] at h
      cases h
    | succ n3 ih3 =>
      intro x1 x2 x3 x4 x5 m_w m_may m_least m_isCarried m_list m_listMany m_cause m_looks H locs ls hP hD hS hl h
      rw [f_X6_goOn_b3] at h
      have w41 : ∀  (x1 : Int32) (x2 : Int32) (x3 : Int32) (x4 : Int32) (x5 : Int32) (s0 : Int32) (m_w : (Nat → Int32)) (m_may : (Nat → Int32)) (m_least : (Nat → Int32)) (m_isCarried : (Nat → Int32)) (m_list : (Nat → Int32)) (m_listMany : Int32) (m_cause : Int32) (m_looks : Int32) (H : Heap) (locs : List Loc) (ls : Array Slot), va_P D vwCl [(qm, .inr (6, [.ref qm_w, .ref qm_past, .int m_pastMany, .ref qm_images, .int m_filled, .ref qm_text, .int m_length, .ref qm_may, .ref qm_least, .ref qm_isCarried, .ref qm_list, .ref qm_nodes, .int m_listMany, .int m_went, .int m_cost, .int m_cause, .int m_looks, .int m_isSent, .int m_isOld, .ref qm_kept, .ref qm_keptLow, .ref qm_keptHigh, .int m_keptMany, .ref qm_keptNodes, .ref qm_numbers, .ref qm_sums, .ref qm_commands, .int m_commandMany, .ref qm_held])), (qm_w, .inl (cI, 93, .inl m_w)), (qm_may, .inl (cZ, 18, .inl m_may)), (qm_least, .inl (cI, 9, .inl m_least)), (qm_isCarried, .inl (cZ, 18, .inl m_isCarried)), (qm_list, .inl (cI, 18, .inl m_list))] H → va_D A [(qm, .inr (6, [.ref qm_w, .ref qm_past, .int m_pastMany, .ref qm_images, .int m_filled, .ref qm_text, .int m_length, .ref qm_may, .ref qm_least, .ref qm_isCarried, .ref qm_list, .ref qm_nodes, .int m_listMany, .int m_went, .int m_cost, .int m_cause, .int m_looks, .int m_isSent, .int m_isOld, .ref qm_kept, .ref qm_keptLow, .ref qm_keptHigh, .int m_keptMany, .ref qm_keptNodes, .ref qm_numbers, .ref qm_sums, .ref qm_commands, .int m_commandMany, .ref qm_held])), (qm_w, .inl (cI, 93, .inl m_w)), (qm_may, .inl (cZ, 18, .inl m_may)), (qm_least, .inl (cI, 9, .inl m_least)), (qm_isCarried, .inl (cZ, 18, .inl m_isCarried)), (qm_list, .inl (cI, 18, .inl m_list))] → va_S A s.heap H locs → lv_has ls 7 [(0, .ref qm), (1, .int x1), (2, .int x2), (3, .int x3), (4, .int x4), (5, .int x5)] → f_X6_goOn_b41 (f_X6_goOn_b3 n3) x1 x2 x3 x4 x5 s0 m_w m_may m_least m_isCarried m_list m_listMany m_cause m_looks = some (r, z_m_may, z_m_least, z_m_isCarried, z_m_list, z_m_listMany, z_m_cause, z_m_looks) → W p l e { frames := 3, cells := 0, slots := 0, locals := 68 } s m ([.ref qm, .int p1, .int p2, .int p3, .int p4] : List Value).toArray below meth c H locs 0 0 (MQ below (k_QI D r [(qm, .inr (6, [.ref qm_w, .ref qm_past, .int m_pastMany, .ref qm_images, .int m_filled, .ref qm_text, .int m_length, .ref qm_may, .ref qm_least, .ref qm_isCarried, .ref qm_list, .ref qm_nodes, .int z_m_listMany, .int m_went, .int m_cost, .int z_m_cause, .int z_m_looks, .int m_isSent, .int m_isOld, .ref qm_kept, .ref qm_keptLow, .ref qm_keptHigh, .int m_keptMany, .ref qm_keptNodes, .ref qm_numbers, .ref qm_sums, .ref qm_commands, .int m_commandMany, .ref qm_held])), (qm_w, .inl (cI, 93, .inl m_w)), (qm_may, .inl (cZ, 18, .inl z_m_may)), (qm_least, .inl (cI, 9, .inl z_m_least)), (qm_isCarried, .inl (cZ, 18, .inl z_m_isCarried)), (qm_list, .inl (cI, 18, .inl z_m_list))] A) ([.ref qm, .int p1, .int p2, .int p3, .int p4] : List Value).toArray s 0 0 A) (F0 m 41 ls [.int s0]) := by
        intro x1 x2 x3 x4 x5 s0 m_w m_may m_least m_isCarried m_list m_listMany m_cause m_looks H locs ls hP hD hS hl h
        unfold f_X6_goOn_b41 at h
        refine lv_istore (lv' := [(6, .int s0), (0, .ref qm), (1, .int x1), (2, .int x2), (3, .int x3), (4, .int x4), (5, .int x5)]) hx hb dX6_goOn_41 hl (by decide) rfl (fun ls hl => ?_)
        refine lv_aload_n hx hb dX6_goOn_43 rfl (lv_at hl 1 rfl) ?_
        refine va_get (D := D) (ci := 6) (v := .ref qm_may) (C := RX6) (T := TX6) (N := 29) hx hb hu k_iX6 hown hK hP 0 rfl rfl 7 (by decide) (hu _ u_725) (fun _ h9 => h9) rfl dX6_goOn_44 ?_
        refine lv_iload hx hb dX6_goOn_47 (lv_at hl 6 rfl) ?_
        refine lv_aload_n hx hb dX6_goOn_49 rfl (lv_at hl 1 rfl) ?_
        refine lv_iload hx hb dX6_goOn_50 (lv_at hl 6 rfl) ?_
        refine lv_iconst (v := (4 : Int32)) hx hb dX6_goOn_52 (by decide) ?_
        obtain ⟨r_20, hc_21, h⟩ := ob_bind h
        refine k_callVIr (qb := 0) [0, 1] (As := [.int x5, .int (4 : Int32)]) (rest := [.int x5, .ref qm_may]) ⟨hx, hb, hml, hown, hts⟩ hT hZ hA hP hD hS (c_X6_of l D cI cZ cN aK aV qm qm_w qm_past qm_images qm_text qm_may qm_least qm_isCarried qm_list qm_nodes qm_kept qm_keptLow qm_keptHigh qm_keptNodes qm_numbers qm_sums qm_commands qm_held m_w m_pastMany m_filled m_length m_listMany m_went m_cost m_cause m_looks m_isSent m_isOld m_keptMany m_commandMany x5 (4 : Int32) r_20 hc_21) ⟨callB_of 2 hts (k_good u_840) rfl rfl rfl (hu _ u_51) (hu _ u_837) (by decide +kernel) ⟨Nat.le_of_ble_eq_true rfl, Nat.le_of_ble_eq_true rfl⟩, hu _ u_839, hu _ u_23⟩ rfl rfl rfl (by decide) rfl hl.1 rfl (Nat.le_of_ble_eq_true rfl) dX6_goOn_53 (fun H locs hP hD hS => ?_)
        refine lv_iconst (v := (1 : Int32)) hx hb dX6_goOn_56 (by decide) ?_
        refine lv_icmp_ne (tgt := 86) hx hb dX6_goOn_57 (by decide) (fun cc_22 => ?_) (fun cc_22 => ?_)
        · have h := (if_neg cc_22).symm.trans h
          refine lv_iconst (v := (0 : Int32)) hx hb dX6_goOn_86 (by decide) ?_
          obtain ⟨hin_23, h⟩ := ob_if h
          have hin_23 := inb_in hin_23
          refine va_zast (D := D) hx hb hK hP hD hS 2 1 rfl rfl hin_23 dX6_goOn_87 (fun H locs hP hD hS => ?_)
          have hP : va_P D vwCl [(qm, .inr (6, [.ref qm_w, .ref qm_past, .int m_pastMany, .ref qm_images, .int m_filled, .ref qm_text, .int m_length, .ref qm_may, .ref qm_least, .ref qm_isCarried, .ref qm_list, .ref qm_nodes, .int m_listMany, .int m_went, .int m_cost, .int m_cause, .int m_looks, .int m_isSent, .int m_isOld, .ref qm_kept, .ref qm_keptLow, .ref qm_keptHigh, .int m_keptMany, .ref qm_keptNodes, .ref qm_numbers, .ref qm_sums, .ref qm_commands, .int m_commandMany, .ref qm_held])), (qm_w, .inl (cI, 93, .inl m_w)), (qm_may, .inl (cZ, 18, .inl (upd m_may (Int32.toNatClampNeg x5) (0 : Int32)))), (qm_least, .inl (cI, 9, .inl m_least)), (qm_isCarried, .inl (cZ, 18, .inl m_isCarried)), (qm_list, .inl (cI, 18, .inl m_list))] H := hP
          have hD : va_D A [(qm, .inr (6, [.ref qm_w, .ref qm_past, .int m_pastMany, .ref qm_images, .int m_filled, .ref qm_text, .int m_length, .ref qm_may, .ref qm_least, .ref qm_isCarried, .ref qm_list, .ref qm_nodes, .int m_listMany, .int m_went, .int m_cost, .int m_cause, .int m_looks, .int m_isSent, .int m_isOld, .ref qm_kept, .ref qm_keptLow, .ref qm_keptHigh, .int m_keptMany, .ref qm_keptNodes, .ref qm_numbers, .ref qm_sums, .ref qm_commands, .int m_commandMany, .ref qm_held])), (qm_w, .inl (cI, 93, .inl m_w)), (qm_may, .inl (cZ, 18, .inl (upd m_may (Int32.toNatClampNeg x5) (0 : Int32)))), (qm_least, .inl (cI, 9, .inl m_least)), (qm_isCarried, .inl (cZ, 18, .inl m_isCarried)), (qm_list, .inl (cI, 18, .inl m_list))] := hD
          refine lv_iinc (v := (x5 + (1 : Int32))) (lv' := [(5, .int (x5 + (1 : Int32))), (6, .int s0), (0, .ref qm), (1, .int x1), (2, .int x2), (3, .int x3), (4, .int x4)]) hx hb dX6_goOn_88 hl (k := 6) rfl rfl (by decide) rfl (fun ls hl => ?_)
          refine lv_goto (tgt := 3) hx hb dX6_goOn_91 (by decide) ?_
          exact ih3 x1 x2 x3 x4 (x5 + (1 : Int32)) m_w (upd m_may (Int32.toNatClampNeg x5) (0 : Int32)) m_least m_isCarried m_list m_listMany m_cause m_looks _ _ _ hP hD hS (lv_sub hl [2, 3, 4, 5, 6, 0] rfl) h
        · have h := (if_pos cc_22).symm.trans h
          refine lv_iload_n hx hb dX6_goOn_60 rfl (lv_at hl 4 rfl) ?_
          refine lv_if_eq (tgt := 72) hx hb dX6_goOn_61 (by decide) (fun cc_24 => ?_) (fun cc_24 => ?_)
          · have h := (if_pos cc_24).symm.trans h
            refine lv_aload_n hx hb dX6_goOn_72 rfl (lv_at hl 1 rfl) ?_
            refine va_get (D := D) (ci := 6) (v := .ref qm_isCarried) (C := RX6) (T := TX6) (N := 29) hx hb hu k_iX6 hown hK hP 0 rfl rfl 9 (by decide) (hu _ u_727) (fun _ h9 => h9) rfl dX6_goOn_73 ?_
            refine lv_iload hx hb dX6_goOn_76 (lv_at hl 6 rfl) ?_
            obtain ⟨hin_25, h⟩ := ob_if h
            have hin_25 := inb_in hin_25
            refine va_zald (D := D) hx hb hK hP 4 1 rfl rfl hin_25 dX6_goOn_78 ?_
            refine lv_if_ne (tgt := 86) hx hb dX6_goOn_79 (by decide) (fun cc_26 => ?_) (fun cc_26 => ?_)
            · have h := (if_neg cc_26).symm.trans h
              refine lv_iconst (v := (0 : Int32)) hx hb dX6_goOn_86 (by decide) ?_
              refine va_zast (D := D) hx hb hK hP hD hS 2 1 rfl rfl hin_25 dX6_goOn_87 (fun H locs hP hD hS => ?_)
              have hP : va_P D vwCl [(qm, .inr (6, [.ref qm_w, .ref qm_past, .int m_pastMany, .ref qm_images, .int m_filled, .ref qm_text, .int m_length, .ref qm_may, .ref qm_least, .ref qm_isCarried, .ref qm_list, .ref qm_nodes, .int m_listMany, .int m_went, .int m_cost, .int m_cause, .int m_looks, .int m_isSent, .int m_isOld, .ref qm_kept, .ref qm_keptLow, .ref qm_keptHigh, .int m_keptMany, .ref qm_keptNodes, .ref qm_numbers, .ref qm_sums, .ref qm_commands, .int m_commandMany, .ref qm_held])), (qm_w, .inl (cI, 93, .inl m_w)), (qm_may, .inl (cZ, 18, .inl (upd m_may (Int32.toNatClampNeg x5) (0 : Int32)))), (qm_least, .inl (cI, 9, .inl m_least)), (qm_isCarried, .inl (cZ, 18, .inl m_isCarried)), (qm_list, .inl (cI, 18, .inl m_list))] H := hP
              have hD : va_D A [(qm, .inr (6, [.ref qm_w, .ref qm_past, .int m_pastMany, .ref qm_images, .int m_filled, .ref qm_text, .int m_length, .ref qm_may, .ref qm_least, .ref qm_isCarried, .ref qm_list, .ref qm_nodes, .int m_listMany, .int m_went, .int m_cost, .int m_cause, .int m_looks, .int m_isSent, .int m_isOld, .ref qm_kept, .ref qm_keptLow, .ref qm_keptHigh, .int m_keptMany, .ref qm_keptNodes, .ref qm_numbers, .ref qm_sums, .ref qm_commands, .int m_commandMany, .ref qm_held])), (qm_w, .inl (cI, 93, .inl m_w)), (qm_may, .inl (cZ, 18, .inl (upd m_may (Int32.toNatClampNeg x5) (0 : Int32)))), (qm_least, .inl (cI, 9, .inl m_least)), (qm_isCarried, .inl (cZ, 18, .inl m_isCarried)), (qm_list, .inl (cI, 18, .inl m_list))] := hD
              refine lv_iinc (v := (x5 + (1 : Int32))) (lv' := [(5, .int (x5 + (1 : Int32))), (6, .int s0), (0, .ref qm), (1, .int x1), (2, .int x2), (3, .int x3), (4, .int x4)]) hx hb dX6_goOn_88 hl (k := 6) rfl rfl (by decide) rfl (fun ls hl => ?_)
              refine lv_goto (tgt := 3) hx hb dX6_goOn_91 (by decide) ?_
              exact ih3 x1 x2 x3 x4 (x5 + (1 : Int32)) m_w (upd m_may (Int32.toNatClampNeg x5) (0 : Int32)) m_least m_isCarried m_list m_listMany m_cause m_looks _ _ _ hP hD hS (lv_sub hl [2, 3, 4, 5, 6, 0] rfl) h
            · have h := (if_pos cc_26).symm.trans h
              refine lv_iconst (v := (1 : Int32)) hx hb dX6_goOn_82 (by decide) ?_
              refine lv_goto (tgt := 87) hx hb dX6_goOn_83 (by decide) ?_
              refine va_zast (D := D) hx hb hK hP hD hS 2 1 rfl rfl hin_25 dX6_goOn_87 (fun H locs hP hD hS => ?_)
              have hP : va_P D vwCl [(qm, .inr (6, [.ref qm_w, .ref qm_past, .int m_pastMany, .ref qm_images, .int m_filled, .ref qm_text, .int m_length, .ref qm_may, .ref qm_least, .ref qm_isCarried, .ref qm_list, .ref qm_nodes, .int m_listMany, .int m_went, .int m_cost, .int m_cause, .int m_looks, .int m_isSent, .int m_isOld, .ref qm_kept, .ref qm_keptLow, .ref qm_keptHigh, .int m_keptMany, .ref qm_keptNodes, .ref qm_numbers, .ref qm_sums, .ref qm_commands, .int m_commandMany, .ref qm_held])), (qm_w, .inl (cI, 93, .inl m_w)), (qm_may, .inl (cZ, 18, .inl (upd m_may (Int32.toNatClampNeg x5) (1 : Int32)))), (qm_least, .inl (cI, 9, .inl m_least)), (qm_isCarried, .inl (cZ, 18, .inl m_isCarried)), (qm_list, .inl (cI, 18, .inl m_list))] H := hP
              have hD : va_D A [(qm, .inr (6, [.ref qm_w, .ref qm_past, .int m_pastMany, .ref qm_images, .int m_filled, .ref qm_text, .int m_length, .ref qm_may, .ref qm_least, .ref qm_isCarried, .ref qm_list, .ref qm_nodes, .int m_listMany, .int m_went, .int m_cost, .int m_cause, .int m_looks, .int m_isSent, .int m_isOld, .ref qm_kept, .ref qm_keptLow, .ref qm_keptHigh, .int m_keptMany, .ref qm_keptNodes, .ref qm_numbers, .ref qm_sums, .ref qm_commands, .int m_commandMany, .ref qm_held])), (qm_w, .inl (cI, 93, .inl m_w)), (qm_may, .inl (cZ, 18, .inl (upd m_may (Int32.toNatClampNeg x5) (1 : Int32)))), (qm_least, .inl (cI, 9, .inl m_least)), (qm_isCarried, .inl (cZ, 18, .inl m_isCarried)), (qm_list, .inl (cI, 18, .inl m_list))] := hD
              refine lv_iinc (v := (x5 + (1 : Int32))) (lv' := [(5, .int (x5 + (1 : Int32))), (6, .int s0), (0, .ref qm), (1, .int x1), (2, .int x2), (3, .int x3), (4, .int x4)]) hx hb dX6_goOn_88 hl (k := 6) rfl rfl (by decide) rfl (fun ls hl => ?_)
              refine lv_goto (tgt := 3) hx hb dX6_goOn_91 (by decide) ?_
              exact ih3 x1 x2 x3 x4 (x5 + (1 : Int32)) m_w (upd m_may (Int32.toNatClampNeg x5) (1 : Int32)) m_least m_isCarried m_list m_listMany m_cause m_looks _ _ _ hP hD hS (lv_sub hl [2, 3, 4, 5, 6, 0] rfl) h
          · have h := (if_neg cc_24).symm.trans h
            refine lv_iload hx hb dX6_goOn_64 (lv_at hl 0 rfl) ?_
            refine lv_if_eq (tgt := 82) hx hb dX6_goOn_66 (by decide) (fun cc_27 => ?_) (fun cc_27 => ?_)
            · have h := (if_pos cc_27).symm.trans h
              refine lv_iconst (v := (1 : Int32)) hx hb dX6_goOn_82 (by decide) ?_
              refine lv_goto (tgt := 87) hx hb dX6_goOn_83 (by decide) ?_
              obtain ⟨hin_28, h⟩ := ob_if h
              have hin_28 := inb_in hin_28
              refine va_zast (D := D) hx hb hK hP hD hS 2 1 rfl rfl hin_28 dX6_goOn_87 (fun H locs hP hD hS => ?_)
              have hP : va_P D vwCl [(qm, .inr (6, [.ref qm_w, .ref qm_past, .int m_pastMany, .ref qm_images, .int m_filled, .ref qm_text, .int m_length, .ref qm_may, .ref qm_least, .ref qm_isCarried, .ref qm_list, .ref qm_nodes, .int m_listMany, .int m_went, .int m_cost, .int m_cause, .int m_looks, .int m_isSent, .int m_isOld, .ref qm_kept, .ref qm_keptLow, .ref qm_keptHigh, .int m_keptMany, .ref qm_keptNodes, .ref qm_numbers, .ref qm_sums, .ref qm_commands, .int m_commandMany, .ref qm_held])), (qm_w, .inl (cI, 93, .inl m_w)), (qm_may, .inl (cZ, 18, .inl (upd m_may (Int32.toNatClampNeg x5) (1 : Int32)))), (qm_least, .inl (cI, 9, .inl m_least)), (qm_isCarried, .inl (cZ, 18, .inl m_isCarried)), (qm_list, .inl (cI, 18, .inl m_list))] H := hP
              have hD : va_D A [(qm, .inr (6, [.ref qm_w, .ref qm_past, .int m_pastMany, .ref qm_images, .int m_filled, .ref qm_text, .int m_length, .ref qm_may, .ref qm_least, .ref qm_isCarried, .ref qm_list, .ref qm_nodes, .int m_listMany, .int m_went, .int m_cost, .int m_cause, .int m_looks, .int m_isSent, .int m_isOld, .ref qm_kept, .ref qm_keptLow, .ref qm_keptHigh, .int m_keptMany, .ref qm_keptNodes, .ref qm_numbers, .ref qm_sums, .ref qm_commands, .int m_commandMany, .ref qm_held])), (qm_w, .inl (cI, 93, .inl m_w)), (qm_may, .inl (cZ, 18, .inl (upd m_may (Int32.toNatClampNeg x5) (1 : Int32)))), (qm_least, .inl (cI, 9, .inl m_least)), (qm_isCarried, .inl (cZ, 18, .inl m_isCarried)), (qm_list, .inl (cI, 18, .inl m_list))] := hD
              refine lv_iinc (v := (x5 + (1 : Int32))) (lv' := [(5, .int (x5 + (1 : Int32))), (6, .int s0), (0, .ref qm), (1, .int x1), (2, .int x2), (3, .int x3), (4, .int x4)]) hx hb dX6_goOn_88 hl (k := 6) rfl rfl (by decide) rfl (fun ls hl => ?_)
              refine lv_goto (tgt := 3) hx hb dX6_goOn_91 (by decide) ?_
              exact ih3 x1 x2 x3 x4 (x5 + (1 : Int32)) m_w (upd m_may (Int32.toNatClampNeg x5) (1 : Int32)) m_least m_isCarried m_list m_listMany m_cause m_looks _ _ _ hP hD hS (lv_sub hl [2, 3, 4, 5, 6, 0] rfl) h
            · have h := (if_neg cc_27).symm.trans h
              refine lv_goto (tgt := 86) hx hb dX6_goOn_69 (by decide) ?_
              refine lv_iconst (v := (0 : Int32)) hx hb dX6_goOn_86 (by decide) ?_
              obtain ⟨hin_29, h⟩ := ob_if h
              have hin_29 := inb_in hin_29
              refine va_zast (D := D) hx hb hK hP hD hS 2 1 rfl rfl hin_29 dX6_goOn_87 (fun H locs hP hD hS => ?_)
              have hP : va_P D vwCl [(qm, .inr (6, [.ref qm_w, .ref qm_past, .int m_pastMany, .ref qm_images, .int m_filled, .ref qm_text, .int m_length, .ref qm_may, .ref qm_least, .ref qm_isCarried, .ref qm_list, .ref qm_nodes, .int m_listMany, .int m_went, .int m_cost, .int m_cause, .int m_looks, .int m_isSent, .int m_isOld, .ref qm_kept, .ref qm_keptLow, .ref qm_keptHigh, .int m_keptMany, .ref qm_keptNodes, .ref qm_numbers, .ref qm_sums, .ref qm_commands, .int m_commandMany, .ref qm_held])), (qm_w, .inl (cI, 93, .inl m_w)), (qm_may, .inl (cZ, 18, .inl (upd m_may (Int32.toNatClampNeg x5) (0 : Int32)))), (qm_least, .inl (cI, 9, .inl m_least)), (qm_isCarried, .inl (cZ, 18, .inl m_isCarried)), (qm_list, .inl (cI, 18, .inl m_list))] H := hP
              have hD : va_D A [(qm, .inr (6, [.ref qm_w, .ref qm_past, .int m_pastMany, .ref qm_images, .int m_filled, .ref qm_text, .int m_length, .ref qm_may, .ref qm_least, .ref qm_isCarried, .ref qm_list, .ref qm_nodes, .int m_listMany, .int m_went, .int m_cost, .int m_cause, .int m_looks, .int m_isSent, .int m_isOld, .ref qm_kept, .ref qm_keptLow, .ref qm_keptHigh, .int m_keptMany, .ref qm_keptNodes, .ref qm_numbers, .ref qm_sums, .ref qm_commands, .int m_commandMany, .ref qm_held])), (qm_w, .inl (cI, 93, .inl m_w)), (qm_may, .inl (cZ, 18, .inl (upd m_may (Int32.toNatClampNeg x5) (0 : Int32)))), (qm_least, .inl (cI, 9, .inl m_least)), (qm_isCarried, .inl (cZ, 18, .inl m_isCarried)), (qm_list, .inl (cI, 18, .inl m_list))] := hD
              refine lv_iinc (v := (x5 + (1 : Int32))) (lv' := [(5, .int (x5 + (1 : Int32))), (6, .int s0), (0, .ref qm), (1, .int x1), (2, .int x2), (3, .int x3), (4, .int x4)]) hx hb dX6_goOn_88 hl (k := 6) rfl rfl (by decide) rfl (fun ls hl => ?_)
              refine lv_goto (tgt := 3) hx hb dX6_goOn_91 (by decide) ?_
              exact ih3 x1 x2 x3 x4 (x5 + (1 : Int32)) m_w (upd m_may (Int32.toNatClampNeg x5) (0 : Int32)) m_least m_isCarried m_list m_listMany m_cause m_looks _ _ _ hP hD hS (lv_sub hl [2, 3, 4, 5, 6, 0] rfl) h
      refine lv_iload hx hb dX6_goOn_3 (lv_at hl 5 rfl) ?_
      refine lv_aload_n hx hb dX6_goOn_5 rfl (lv_at hl 0 rfl) ?_
      refine va_get (D := D) (ci := 6) (v := .ref qm_w) (C := RX6) (T := TX6) (N := 29) hx hb hu k_iX6 hown hK hP 0 rfl rfl 0 (by decide) (hu _ u_718) (fun _ h9 => h9) rfl dX6_goOn_6 ?_
      refine lv_iconst (v := (1 : Int32)) hx hb dX6_goOn_9 (by decide) ?_
      refine va_iald (D := D) hx hb hK hP 1 0 rfl rfl (inb_in (by decide)) dX6_goOn_10 ?_
      refine lv_icmp_ge (tgt := 94) hx hb dX6_goOn_11 (by decide) (fun cc_1 => ?_) (fun cc_1 => ?_)
      · have h := (if_pos cc_1).symm.trans h
        refine lv_aload_n hx hb dX6_goOn_94 rfl (lv_at hl 0 rfl) ?_
        refine lv_iload_n hx hb dX6_goOn_95 rfl (lv_at hl 2 rfl) ?_
        obtain ⟨o_2, hc_3, h⟩ := ob_bind h
        refine k_callVV (qb := 0) [0, 1, 2, 3] [3] [3] [(qm_least, .inl (cI, 9, .inl o_2))] (As := [.int x2]) (rest := []) ⟨hx, hb, hml, hown, hts⟩ hT hZ hA hP hD hS (c_X6_layLeast l D cI cZ cN aK aV qm qm_w qm_past qm_images qm_text qm_may qm_least qm_isCarried qm_list qm_nodes qm_kept qm_keptLow qm_keptHigh qm_keptNodes qm_numbers qm_sums qm_commands qm_held m_w m_pastMany m_filled m_length m_may m_least m_listMany m_went m_cost m_cause m_looks m_isSent m_isOld m_keptMany m_commandMany x2 o_2 hc_3) ⟨callB_of 1 hts (k_good u_904) rfl rfl rfl (hu _ u_51) (hu _ u_901) (by decide +kernel) ⟨Nat.le_of_ble_eq_true rfl, Nat.le_of_ble_eq_true rfl⟩, hu _ u_903, hu _ u_31⟩ rfl rfl rfl (by decide) (by decide) (by decide) rfl rfl rfl rfl hl.1 rfl (Nat.le_of_ble_eq_true rfl) dX6_goOn_96 (fun H locs hP hD hS => ?_)
        have hP : va_P D vwCl [(qm, .inr (6, [.ref qm_w, .ref qm_past, .int m_pastMany, .ref qm_images, .int m_filled, .ref qm_text, .int m_length, .ref qm_may, .ref qm_least, .ref qm_isCarried, .ref qm_list, .ref qm_nodes, .int m_listMany, .int m_went, .int m_cost, .int m_cause, .int m_looks, .int m_isSent, .int m_isOld, .ref qm_kept, .ref qm_keptLow, .ref qm_keptHigh, .int m_keptMany, .ref qm_keptNodes, .ref qm_numbers, .ref qm_sums, .ref qm_commands, .int m_commandMany, .ref qm_held])), (qm_w, .inl (cI, 93, .inl m_w)), (qm_may, .inl (cZ, 18, .inl m_may)), (qm_least, .inl (cI, 9, .inl o_2)), (qm_isCarried, .inl (cZ, 18, .inl m_isCarried)), (qm_list, .inl (cI, 18, .inl m_list))] H := hP
        have hD : va_D A [(qm, .inr (6, [.ref qm_w, .ref qm_past, .int m_pastMany, .ref qm_images, .int m_filled, .ref qm_text, .int m_length, .ref qm_may, .ref qm_least, .ref qm_isCarried, .ref qm_list, .ref qm_nodes, .int m_listMany, .int m_went, .int m_cost, .int m_cause, .int m_looks, .int m_isSent, .int m_isOld, .ref qm_kept, .ref qm_keptLow, .ref qm_keptHigh, .int m_keptMany, .ref qm_keptNodes, .ref qm_numbers, .ref qm_sums, .ref qm_commands, .int m_commandMany, .ref qm_held])), (qm_w, .inl (cI, 93, .inl m_w)), (qm_may, .inl (cZ, 18, .inl m_may)), (qm_least, .inl (cI, 9, .inl o_2)), (qm_isCarried, .inl (cZ, 18, .inl m_isCarried)), (qm_list, .inl (cI, 18, .inl m_list))] := hD
        refine lv_aload_n hx hb dX6_goOn_99 rfl (lv_at hl 0 rfl) ?_
        refine lv_dup hx hb dX6_goOn_100 rfl ?_
        refine va_get (D := D) (ci := 6) (v := .int m_looks) (C := RX6) (T := TX6) (N := 29) hx hb hu k_iX6 hown hK hP 0 rfl rfl 16 (by decide) (hu _ u_734) (fun _ h9 => h9) rfl dX6_goOn_101 ?_
        refine lv_iconst (v := (1 : Int32)) hx hb dX6_goOn_104 (by decide) ?_
        refine lv_iadd hx hb dX6_goOn_105 ?_
        refine va_put (D := D) (ci := 6) (v := .int (m_looks + (1 : Int32))) (ty := .int) (C := RX6) (T := TX6) (N := 29) hx hb hu k_iX6 tyX6 tyX6_ok nmX6 hown hK hP hD hS 0 rfl rfl 16 (by decide) (hu _ u_734) (fun _ h9 => h9) rfl (by decide +kernel) rfl rfl (Nat.le_of_ble_eq_true rfl) dX6_goOn_106 (fun H locs hP hD hS => ?_)
        have hP : va_P D vwCl [(qm, .inr (6, [.ref qm_w, .ref qm_past, .int m_pastMany, .ref qm_images, .int m_filled, .ref qm_text, .int m_length, .ref qm_may, .ref qm_least, .ref qm_isCarried, .ref qm_list, .ref qm_nodes, .int m_listMany, .int m_went, .int m_cost, .int m_cause, .int (m_looks + (1 : Int32)), .int m_isSent, .int m_isOld, .ref qm_kept, .ref qm_keptLow, .ref qm_keptHigh, .int m_keptMany, .ref qm_keptNodes, .ref qm_numbers, .ref qm_sums, .ref qm_commands, .int m_commandMany, .ref qm_held])), (qm_w, .inl (cI, 93, .inl m_w)), (qm_may, .inl (cZ, 18, .inl m_may)), (qm_least, .inl (cI, 9, .inl o_2)), (qm_isCarried, .inl (cZ, 18, .inl m_isCarried)), (qm_list, .inl (cI, 18, .inl m_list))] H := hP
        have hD : va_D A [(qm, .inr (6, [.ref qm_w, .ref qm_past, .int m_pastMany, .ref qm_images, .int m_filled, .ref qm_text, .int m_length, .ref qm_may, .ref qm_least, .ref qm_isCarried, .ref qm_list, .ref qm_nodes, .int m_listMany, .int m_went, .int m_cost, .int m_cause, .int (m_looks + (1 : Int32)), .int m_isSent, .int m_isOld, .ref qm_kept, .ref qm_keptLow, .ref qm_keptHigh, .int m_keptMany, .ref qm_keptNodes, .ref qm_numbers, .ref qm_sums, .ref qm_commands, .int m_commandMany, .ref qm_held])), (qm_w, .inl (cI, 93, .inl m_w)), (qm_may, .inl (cZ, 18, .inl m_may)), (qm_least, .inl (cI, 9, .inl o_2)), (qm_isCarried, .inl (cZ, 18, .inl m_isCarried)), (qm_list, .inl (cI, 18, .inl m_list))] := hD
        refine lv_aload_n hx hb dX6_goOn_109 rfl (lv_at hl 0 rfl) ?_
        refine va_get (D := D) (ci := 6) (v := .ref qm_least) (C := RX6) (T := TX6) (N := 29) hx hb hu k_iX6 hown hK hP 0 rfl rfl 8 (by decide) (hu _ u_726) (fun _ h9 => h9) rfl dX6_goOn_110 ?_
        refine lv_iload_n hx hb dX6_goOn_113 rfl (lv_at hl 1 rfl) ?_
        obtain ⟨hin_4, h⟩ := ob_if h
        have hin_4 := inb_in hin_4
        refine va_iald (D := D) hx hb hK hP 3 0 rfl rfl hin_4 dX6_goOn_114 ?_
        refine lv_ldc (v := (1000000 : Int32)) hx hb hown (hu _ u_905) dX6_goOn_115 ?_
        refine lv_icmp_ne (tgt := 128) hx hb dX6_goOn_117 (by decide) (fun cc_5 => ?_) (fun cc_5 => ?_)
        · have h := (if_neg cc_5).symm.trans h
          refine lv_aload_n hx hb dX6_goOn_128 rfl (lv_at hl 0 rfl) ?_
          refine lv_iload_n hx hb dX6_goOn_129 rfl (lv_at hl 1 rfl) ?_
          obtain ⟨r_6, hc_7, h⟩ := ob_bind h
          refine k_callVIr (qb := 0) [0, 1, 2, 3] (As := [.int x1]) (rest := []) ⟨hx, hb, hml, hown, hts⟩ hT hZ hA hP hD hS (c_X6_firstLink l D cI cZ cN aK aV qm qm_w qm_past qm_images qm_text qm_may qm_least qm_isCarried qm_list qm_nodes qm_kept qm_keptLow qm_keptHigh qm_keptNodes qm_numbers qm_sums qm_commands qm_held m_w m_pastMany m_filled m_length m_may o_2 m_listMany m_went m_cost m_cause (m_looks + (1 : Int32)) m_isSent m_isOld m_keptMany m_commandMany x1 r_6 hc_7) ⟨callB_of 1 hts (k_good u_925) rfl rfl rfl (hu _ u_51) (hu _ u_922) (by decide +kernel) ⟨Nat.le_of_ble_eq_true rfl, Nat.le_of_ble_eq_true rfl⟩, hu _ u_924, hu _ u_33⟩ rfl rfl rfl (by decide) rfl hl.1 rfl (Nat.le_of_ble_eq_true rfl) dX6_goOn_130 (fun H locs hP hD hS => ?_)
          refine lv_istore (lv' := [(5, .int r_6), (0, .ref qm), (1, .int x1), (2, .int x2), (3, .int x3), (4, .int x4)]) hx hb dX6_goOn_133 hl (by decide) rfl (fun ls hl => ?_)
          refine lv_aload_n hx hb dX6_goOn_135 rfl (lv_at hl 1 rfl) ?_
          refine lv_iload hx hb dX6_goOn_136 (lv_at hl 0 rfl) ?_
          refine lv_iconst (v := (3 : Int32)) hx hb dX6_goOn_138 (by decide) ?_
          obtain ⟨r_8, hc_9, h⟩ := ob_bind h
          refine k_callVIr (qb := 0) [0, 1] (As := [.int r_6, .int (3 : Int32)]) (rest := []) ⟨hx, hb, hml, hown, hts⟩ hT hZ hA hP hD hS (c_X6_of l D cI cZ cN aK aV qm qm_w qm_past qm_images qm_text qm_may qm_least qm_isCarried qm_list qm_nodes qm_kept qm_keptLow qm_keptHigh qm_keptNodes qm_numbers qm_sums qm_commands qm_held m_w m_pastMany m_filled m_length m_listMany m_went m_cost m_cause (m_looks + (1 : Int32)) m_isSent m_isOld m_keptMany m_commandMany r_6 (3 : Int32) r_8 hc_9) ⟨callB_of 2 hts (k_good u_840) rfl rfl rfl (hu _ u_51) (hu _ u_837) (by decide +kernel) ⟨Nat.le_of_ble_eq_true rfl, Nat.le_of_ble_eq_true rfl⟩, hu _ u_839, hu _ u_23⟩ rfl rfl rfl (by decide) rfl hl.1 rfl (Nat.le_of_ble_eq_true rfl) dX6_goOn_139 (fun H locs hP hD hS => ?_)
          refine lv_iconst (v := (1 : Int32)) hx hb dX6_goOn_142 (by decide) ?_
          refine lv_icmp_ne (tgt := 149) hx hb dX6_goOn_143 (by decide) (fun cc_10 => ?_) (fun cc_10 => ?_)
          · have h := (if_neg cc_10).symm.trans h
            refine lv_aload_n hx hb dX6_goOn_149 rfl (lv_at hl 1 rfl) ?_
            refine va_get (D := D) (ci := 6) (v := .int m_listMany) (C := RX6) (T := TX6) (N := 29) hx hb hu k_iX6 hown hK hP 0 rfl rfl 12 (by decide) (hu _ u_730) (fun _ h9 => h9) rfl dX6_goOn_150 ?_
            refine lv_iload hx hb dX6_goOn_153 (lv_at hl 5 rfl) ?_
            refine lv_icmp_ne (tgt := 166) hx hb dX6_goOn_155 (by decide) (fun cc_11 => ?_) (fun cc_11 => ?_)
            · have h := (if_neg cc_11).symm.trans h
              refine lv_aload_n hx hb dX6_goOn_166 rfl (lv_at hl 1 rfl) ?_
              refine va_get (D := D) (ci := 6) (v := .ref qm_isCarried) (C := RX6) (T := TX6) (N := 29) hx hb hu k_iX6 hown hK hP 0 rfl rfl 9 (by decide) (hu _ u_727) (fun _ h9 => h9) rfl dX6_goOn_167 ?_
              refine lv_iload hx hb dX6_goOn_170 (lv_at hl 0 rfl) ?_
              refine lv_iconst (v := (1 : Int32)) hx hb dX6_goOn_172 (by decide) ?_
              obtain ⟨hin_12, h⟩ := ob_if h
              have hin_12 := inb_in hin_12
              refine va_zast (D := D) hx hb hK hP hD hS 4 1 rfl rfl hin_12 dX6_goOn_173 (fun H locs hP hD hS => ?_)
              have hP : va_P D vwCl [(qm, .inr (6, [.ref qm_w, .ref qm_past, .int m_pastMany, .ref qm_images, .int m_filled, .ref qm_text, .int m_length, .ref qm_may, .ref qm_least, .ref qm_isCarried, .ref qm_list, .ref qm_nodes, .int m_listMany, .int m_went, .int m_cost, .int m_cause, .int (m_looks + (1 : Int32)), .int m_isSent, .int m_isOld, .ref qm_kept, .ref qm_keptLow, .ref qm_keptHigh, .int m_keptMany, .ref qm_keptNodes, .ref qm_numbers, .ref qm_sums, .ref qm_commands, .int m_commandMany, .ref qm_held])), (qm_w, .inl (cI, 93, .inl m_w)), (qm_may, .inl (cZ, 18, .inl m_may)), (qm_least, .inl (cI, 9, .inl o_2)), (qm_isCarried, .inl (cZ, 18, .inl (upd m_isCarried (Int32.toNatClampNeg r_6) (1 : Int32)))), (qm_list, .inl (cI, 18, .inl m_list))] H := hP
              have hD : va_D A [(qm, .inr (6, [.ref qm_w, .ref qm_past, .int m_pastMany, .ref qm_images, .int m_filled, .ref qm_text, .int m_length, .ref qm_may, .ref qm_least, .ref qm_isCarried, .ref qm_list, .ref qm_nodes, .int m_listMany, .int m_went, .int m_cost, .int m_cause, .int (m_looks + (1 : Int32)), .int m_isSent, .int m_isOld, .ref qm_kept, .ref qm_keptLow, .ref qm_keptHigh, .int m_keptMany, .ref qm_keptNodes, .ref qm_numbers, .ref qm_sums, .ref qm_commands, .int m_commandMany, .ref qm_held])), (qm_w, .inl (cI, 93, .inl m_w)), (qm_may, .inl (cZ, 18, .inl m_may)), (qm_least, .inl (cI, 9, .inl o_2)), (qm_isCarried, .inl (cZ, 18, .inl (upd m_isCarried (Int32.toNatClampNeg r_6) (1 : Int32)))), (qm_list, .inl (cI, 18, .inl m_list))] := hD
              refine lv_aload_n hx hb dX6_goOn_174 rfl (lv_at hl 1 rfl) ?_
              refine va_get (D := D) (ci := 6) (v := .ref qm_list) (C := RX6) (T := TX6) (N := 29) hx hb hu k_iX6 hown hK hP 0 rfl rfl 10 (by decide) (hu _ u_728) (fun _ h9 => h9) rfl dX6_goOn_175 ?_
              refine lv_aload_n hx hb dX6_goOn_178 rfl (lv_at hl 1 rfl) ?_
              refine va_get (D := D) (ci := 6) (v := .int m_listMany) (C := RX6) (T := TX6) (N := 29) hx hb hu k_iX6 hown hK hP 0 rfl rfl 12 (by decide) (hu _ u_730) (fun _ h9 => h9) rfl dX6_goOn_179 ?_
              refine lv_iload hx hb dX6_goOn_182 (lv_at hl 0 rfl) ?_
              obtain ⟨hin_13, h⟩ := ob_if h
              have hin_13 := inb_in hin_13
              refine va_iast (D := D) hx hb hK hP hD hS 5 0 rfl rfl hin_13 dX6_goOn_184 (fun H locs hP hD hS => ?_)
              have hP : va_P D vwCl [(qm, .inr (6, [.ref qm_w, .ref qm_past, .int m_pastMany, .ref qm_images, .int m_filled, .ref qm_text, .int m_length, .ref qm_may, .ref qm_least, .ref qm_isCarried, .ref qm_list, .ref qm_nodes, .int m_listMany, .int m_went, .int m_cost, .int m_cause, .int (m_looks + (1 : Int32)), .int m_isSent, .int m_isOld, .ref qm_kept, .ref qm_keptLow, .ref qm_keptHigh, .int m_keptMany, .ref qm_keptNodes, .ref qm_numbers, .ref qm_sums, .ref qm_commands, .int m_commandMany, .ref qm_held])), (qm_w, .inl (cI, 93, .inl m_w)), (qm_may, .inl (cZ, 18, .inl m_may)), (qm_least, .inl (cI, 9, .inl o_2)), (qm_isCarried, .inl (cZ, 18, .inl (upd m_isCarried (Int32.toNatClampNeg r_6) (1 : Int32)))), (qm_list, .inl (cI, 18, .inl (upd m_list (Int32.toNatClampNeg m_listMany) r_6)))] H := hP
              have hD : va_D A [(qm, .inr (6, [.ref qm_w, .ref qm_past, .int m_pastMany, .ref qm_images, .int m_filled, .ref qm_text, .int m_length, .ref qm_may, .ref qm_least, .ref qm_isCarried, .ref qm_list, .ref qm_nodes, .int m_listMany, .int m_went, .int m_cost, .int m_cause, .int (m_looks + (1 : Int32)), .int m_isSent, .int m_isOld, .ref qm_kept, .ref qm_keptLow, .ref qm_keptHigh, .int m_keptMany, .ref qm_keptNodes, .ref qm_numbers, .ref qm_sums, .ref qm_commands, .int m_commandMany, .ref qm_held])), (qm_w, .inl (cI, 93, .inl m_w)), (qm_may, .inl (cZ, 18, .inl m_may)), (qm_least, .inl (cI, 9, .inl o_2)), (qm_isCarried, .inl (cZ, 18, .inl (upd m_isCarried (Int32.toNatClampNeg r_6) (1 : Int32)))), (qm_list, .inl (cI, 18, .inl (upd m_list (Int32.toNatClampNeg m_listMany) r_6)))] := hD
              refine lv_aload_n hx hb dX6_goOn_185 rfl (lv_at hl 1 rfl) ?_
              refine lv_dup hx hb dX6_goOn_186 rfl ?_
              refine va_get (D := D) (ci := 6) (v := .int m_listMany) (C := RX6) (T := TX6) (N := 29) hx hb hu k_iX6 hown hK hP 0 rfl rfl 12 (by decide) (hu _ u_730) (fun _ h9 => h9) rfl dX6_goOn_187 ?_
              refine lv_iconst (v := (1 : Int32)) hx hb dX6_goOn_190 (by decide) ?_
              refine lv_iadd hx hb dX6_goOn_191 ?_
              refine va_put (D := D) (ci := 6) (v := .int (m_listMany + (1 : Int32))) (ty := .int) (C := RX6) (T := TX6) (N := 29) hx hb hu k_iX6 tyX6 tyX6_ok nmX6 hown hK hP hD hS 0 rfl rfl 12 (by decide) (hu _ u_730) (fun _ h9 => h9) rfl (by decide +kernel) rfl rfl (Nat.le_of_ble_eq_true rfl) dX6_goOn_192 (fun H locs hP hD hS => ?_)
              have hP : va_P D vwCl [(qm, .inr (6, [.ref qm_w, .ref qm_past, .int m_pastMany, .ref qm_images, .int m_filled, .ref qm_text, .int m_length, .ref qm_may, .ref qm_least, .ref qm_isCarried, .ref qm_list, .ref qm_nodes, .int (m_listMany + (1 : Int32)), .int m_went, .int m_cost, .int m_cause, .int (m_looks + (1 : Int32)), .int m_isSent, .int m_isOld, .ref qm_kept, .ref qm_keptLow, .ref qm_keptHigh, .int m_keptMany, .ref qm_keptNodes, .ref qm_numbers, .ref qm_sums, .ref qm_commands, .int m_commandMany, .ref qm_held])), (qm_w, .inl (cI, 93, .inl m_w)), (qm_may, .inl (cZ, 18, .inl m_may)), (qm_least, .inl (cI, 9, .inl o_2)), (qm_isCarried, .inl (cZ, 18, .inl (upd m_isCarried (Int32.toNatClampNeg r_6) (1 : Int32)))), (qm_list, .inl (cI, 18, .inl (upd m_list (Int32.toNatClampNeg m_listMany) r_6)))] H := hP
              have hD : va_D A [(qm, .inr (6, [.ref qm_w, .ref qm_past, .int m_pastMany, .ref qm_images, .int m_filled, .ref qm_text, .int m_length, .ref qm_may, .ref qm_least, .ref qm_isCarried, .ref qm_list, .ref qm_nodes, .int (m_listMany + (1 : Int32)), .int m_went, .int m_cost, .int m_cause, .int (m_looks + (1 : Int32)), .int m_isSent, .int m_isOld, .ref qm_kept, .ref qm_keptLow, .ref qm_keptHigh, .int m_keptMany, .ref qm_keptNodes, .ref qm_numbers, .ref qm_sums, .ref qm_commands, .int m_commandMany, .ref qm_held])), (qm_w, .inl (cI, 93, .inl m_w)), (qm_may, .inl (cZ, 18, .inl m_may)), (qm_least, .inl (cI, 9, .inl o_2)), (qm_isCarried, .inl (cZ, 18, .inl (upd m_isCarried (Int32.toNatClampNeg r_6) (1 : Int32)))), (qm_list, .inl (cI, 18, .inl (upd m_list (Int32.toNatClampNeg m_listMany) r_6)))] := hD
              refine lv_bipush (v := (-9 : Int32)) hx hb dX6_goOn_195 (by decide) ?_
              have hq := Option.some.inj h
              clear h
              obtain ⟨e0, hq0⟩ := Prod.mk.inj hq
              clear hq
              obtain ⟨e1, hq1⟩ := Prod.mk.inj hq0
              clear hq0
              obtain ⟨e2, hq2⟩ := Prod.mk.inj hq1
              clear hq1
              obtain ⟨e3, hq3⟩ := Prod.mk.inj hq2
              clear hq2
              obtain ⟨e4, hq4⟩ := Prod.mk.inj hq3
              clear hq3
              obtain ⟨e5, hq5⟩ := Prod.mk.inj hq4
              clear hq4
              obtain ⟨e6, hq6⟩ := Prod.mk.inj hq5
              clear hq5
              subst e0
              subst e1
              subst e2
              subst e3
              subst e4
              subst e5
              subst e6
              subst hq6
              exact k_retI hx hb hr hlocks hP hD hS dX6_goOn_197
            · have h := (if_pos cc_11).symm.trans h
              refine lv_aload_n hx hb dX6_goOn_158 rfl (lv_at hl 1 rfl) ?_
              refine lv_iconst (v := (2 : Int32)) hx hb dX6_goOn_159 (by decide) ?_
              refine va_put (D := D) (ci := 6) (v := .int (2 : Int32)) (ty := .int) (C := RX6) (T := TX6) (N := 29) hx hb hu k_iX6 tyX6 tyX6_ok nmX6 hown hK hP hD hS 0 rfl rfl 15 (by decide) (hu _ u_733) (fun _ h9 => h9) rfl (by decide +kernel) rfl rfl (Nat.le_of_ble_eq_true rfl) dX6_goOn_160 (fun H locs hP hD hS => ?_)
              have hP : va_P D vwCl [(qm, .inr (6, [.ref qm_w, .ref qm_past, .int m_pastMany, .ref qm_images, .int m_filled, .ref qm_text, .int m_length, .ref qm_may, .ref qm_least, .ref qm_isCarried, .ref qm_list, .ref qm_nodes, .int m_listMany, .int m_went, .int m_cost, .int (2 : Int32), .int (m_looks + (1 : Int32)), .int m_isSent, .int m_isOld, .ref qm_kept, .ref qm_keptLow, .ref qm_keptHigh, .int m_keptMany, .ref qm_keptNodes, .ref qm_numbers, .ref qm_sums, .ref qm_commands, .int m_commandMany, .ref qm_held])), (qm_w, .inl (cI, 93, .inl m_w)), (qm_may, .inl (cZ, 18, .inl m_may)), (qm_least, .inl (cI, 9, .inl o_2)), (qm_isCarried, .inl (cZ, 18, .inl m_isCarried)), (qm_list, .inl (cI, 18, .inl m_list))] H := hP
              have hD : va_D A [(qm, .inr (6, [.ref qm_w, .ref qm_past, .int m_pastMany, .ref qm_images, .int m_filled, .ref qm_text, .int m_length, .ref qm_may, .ref qm_least, .ref qm_isCarried, .ref qm_list, .ref qm_nodes, .int m_listMany, .int m_went, .int m_cost, .int (2 : Int32), .int (m_looks + (1 : Int32)), .int m_isSent, .int m_isOld, .ref qm_kept, .ref qm_keptLow, .ref qm_keptHigh, .int m_keptMany, .ref qm_keptNodes, .ref qm_numbers, .ref qm_sums, .ref qm_commands, .int m_commandMany, .ref qm_held])), (qm_w, .inl (cI, 93, .inl m_w)), (qm_may, .inl (cZ, 18, .inl m_may)), (qm_least, .inl (cI, 9, .inl o_2)), (qm_isCarried, .inl (cZ, 18, .inl m_isCarried)), (qm_list, .inl (cI, 18, .inl m_list))] := hD
              refine lv_bipush (v := (-9 : Int32)) hx hb dX6_goOn_163 (by decide) ?_
              have hq := Option.some.inj h
              clear h
              obtain ⟨e0, hq0⟩ := Prod.mk.inj hq
              clear hq
              obtain ⟨e1, hq1⟩ := Prod.mk.inj hq0
              clear hq0
              obtain ⟨e2, hq2⟩ := Prod.mk.inj hq1
              clear hq1
              obtain ⟨e3, hq3⟩ := Prod.mk.inj hq2
              clear hq2
              obtain ⟨e4, hq4⟩ := Prod.mk.inj hq3
              clear hq3
              obtain ⟨e5, hq5⟩ := Prod.mk.inj hq4
              clear hq4
              obtain ⟨e6, hq6⟩ := Prod.mk.inj hq5
              clear hq5
              subst e0
              subst e1
              subst e2
              subst e3
              subst e4
              subst e5
              subst e6
              subst hq6
              exact k_retI hx hb hr hlocks hP hD hS dX6_goOn_165
          · have h := (if_pos cc_10).symm.trans h
            refine lv_iload hx hb dX6_goOn_146 (lv_at hl 0 rfl) ?_
            have hq := Option.some.inj h
            clear h
            obtain ⟨e0, hq0⟩ := Prod.mk.inj hq
            clear hq
            obtain ⟨e1, hq1⟩ := Prod.mk.inj hq0
            clear hq0
            obtain ⟨e2, hq2⟩ := Prod.mk.inj hq1
            clear hq1
            obtain ⟨e3, hq3⟩ := Prod.mk.inj hq2
            clear hq2
            obtain ⟨e4, hq4⟩ := Prod.mk.inj hq3
            clear hq3
            obtain ⟨e5, hq5⟩ := Prod.mk.inj hq4
            clear hq4
            obtain ⟨e6, hq6⟩ := Prod.mk.inj hq5
            clear hq5
            subst e0
            subst e1
            subst e2
            subst e3
            subst e4
            subst e5
            subst e6
            subst hq6
            exact k_retI hx hb hr hlocks hP hD hS dX6_goOn_148
        · have h := (if_pos cc_5).symm.trans h
          refine lv_aload_n hx hb dX6_goOn_120 rfl (lv_at hl 0 rfl) ?_
          refine lv_iconst (v := (1 : Int32)) hx hb dX6_goOn_121 (by decide) ?_
          refine va_put (D := D) (ci := 6) (v := .int (1 : Int32)) (ty := .int) (C := RX6) (T := TX6) (N := 29) hx hb hu k_iX6 tyX6 tyX6_ok nmX6 hown hK hP hD hS 0 rfl rfl 15 (by decide) (hu _ u_733) (fun _ h9 => h9) rfl (by decide +kernel) rfl rfl (Nat.le_of_ble_eq_true rfl) dX6_goOn_122 (fun H locs hP hD hS => ?_)
          have hP : va_P D vwCl [(qm, .inr (6, [.ref qm_w, .ref qm_past, .int m_pastMany, .ref qm_images, .int m_filled, .ref qm_text, .int m_length, .ref qm_may, .ref qm_least, .ref qm_isCarried, .ref qm_list, .ref qm_nodes, .int m_listMany, .int m_went, .int m_cost, .int (1 : Int32), .int (m_looks + (1 : Int32)), .int m_isSent, .int m_isOld, .ref qm_kept, .ref qm_keptLow, .ref qm_keptHigh, .int m_keptMany, .ref qm_keptNodes, .ref qm_numbers, .ref qm_sums, .ref qm_commands, .int m_commandMany, .ref qm_held])), (qm_w, .inl (cI, 93, .inl m_w)), (qm_may, .inl (cZ, 18, .inl m_may)), (qm_least, .inl (cI, 9, .inl o_2)), (qm_isCarried, .inl (cZ, 18, .inl m_isCarried)), (qm_list, .inl (cI, 18, .inl m_list))] H := hP
          have hD : va_D A [(qm, .inr (6, [.ref qm_w, .ref qm_past, .int m_pastMany, .ref qm_images, .int m_filled, .ref qm_text, .int m_length, .ref qm_may, .ref qm_least, .ref qm_isCarried, .ref qm_list, .ref qm_nodes, .int m_listMany, .int m_went, .int m_cost, .int (1 : Int32), .int (m_looks + (1 : Int32)), .int m_isSent, .int m_isOld, .ref qm_kept, .ref qm_keptLow, .ref qm_keptHigh, .int m_keptMany, .ref qm_keptNodes, .ref qm_numbers, .ref qm_sums, .ref qm_commands, .int m_commandMany, .ref qm_held])), (qm_w, .inl (cI, 93, .inl m_w)), (qm_may, .inl (cZ, 18, .inl m_may)), (qm_least, .inl (cI, 9, .inl o_2)), (qm_isCarried, .inl (cZ, 18, .inl m_isCarried)), (qm_list, .inl (cI, 18, .inl m_list))] := hD
          refine lv_bipush (v := (-9 : Int32)) hx hb dX6_goOn_125 (by decide) ?_
          have hq := Option.some.inj h
          clear h
          obtain ⟨e0, hq0⟩ := Prod.mk.inj hq
          clear hq
          obtain ⟨e1, hq1⟩ := Prod.mk.inj hq0
          clear hq0
          obtain ⟨e2, hq2⟩ := Prod.mk.inj hq1
          clear hq1
          obtain ⟨e3, hq3⟩ := Prod.mk.inj hq2
          clear hq2
          obtain ⟨e4, hq4⟩ := Prod.mk.inj hq3
          clear hq3
          obtain ⟨e5, hq5⟩ := Prod.mk.inj hq4
          clear hq4
          obtain ⟨e6, hq6⟩ := Prod.mk.inj hq5
          clear hq5
          subst e0
          subst e1
          subst e2
          subst e3
          subst e4
          subst e5
          subst e6
          subst hq6
          exact k_retI hx hb hr hlocks hP hD hS dX6_goOn_127
      · have h := (if_neg cc_1).symm.trans h
        refine lv_aload_n hx hb dX6_goOn_14 rfl (lv_at hl 0 rfl) ?_
        refine lv_iload hx hb dX6_goOn_15 (lv_at hl 5 rfl) ?_
        refine lv_iconst (v := (3 : Int32)) hx hb dX6_goOn_17 (by decide) ?_
        obtain ⟨r_14, hc_15, h⟩ := ob_bind h
        refine k_callVIr (qb := 0) [0, 1] (As := [.int x5, .int (3 : Int32)]) (rest := []) ⟨hx, hb, hml, hown, hts⟩ hT hZ hA hP hD hS (c_X6_of l D cI cZ cN aK aV qm qm_w qm_past qm_images qm_text qm_may qm_least qm_isCarried qm_list qm_nodes qm_kept qm_keptLow qm_keptHigh qm_keptNodes qm_numbers qm_sums qm_commands qm_held m_w m_pastMany m_filled m_length m_listMany m_went m_cost m_cause m_looks m_isSent m_isOld m_keptMany m_commandMany x5 (3 : Int32) r_14 hc_15) ⟨callB_of 2 hts (k_good u_840) rfl rfl rfl (hu _ u_51) (hu _ u_837) (by decide +kernel) ⟨Nat.le_of_ble_eq_true rfl, Nat.le_of_ble_eq_true rfl⟩, hu _ u_839, hu _ u_23⟩ rfl rfl rfl (by decide) rfl hl.1 rfl (Nat.le_of_ble_eq_true rfl) dX6_goOn_18 (fun H locs hP hD hS => ?_)
        refine lv_if_ne (tgt := 40) hx hb dX6_goOn_21 (by decide) (fun cc_16 => ?_) (fun cc_16 => ?_)
        · have h := (if_neg cc_16).symm.trans h
          refine lv_iconst (v := (0 : Int32)) hx hb dX6_goOn_40 (by decide) ?_
          exact w41 x1 x2 x3 x4 x5 (0 : Int32) m_w m_may m_least m_isCarried m_list m_listMany m_cause m_looks _ _ _ hP hD hS (lv_sub hl [0, 1, 2, 3, 4, 5] rfl) h
        · have h := (if_pos cc_16).symm.trans h
          refine lv_aload_n hx hb dX6_goOn_24 rfl (lv_at hl 0 rfl) ?_
          refine lv_iload hx hb dX6_goOn_25 (lv_at hl 5 rfl) ?_
          refine lv_iload_n hx hb dX6_goOn_27 rfl (lv_at hl 1 rfl) ?_
          obtain ⟨r_17, hc_18, h⟩ := ob_bind h
          refine k_callVIr (qb := 0) [0, 1] (As := [.int x5, .int x1]) (rest := []) ⟨hx, hb, hml, hown, hts⟩ hT hZ hA hP hD hS (c_X6_otherEnd l D cI cZ cN aK aV qm qm_w qm_past qm_images qm_text qm_may qm_least qm_isCarried qm_list qm_nodes qm_kept qm_keptLow qm_keptHigh qm_keptNodes qm_numbers qm_sums qm_commands qm_held m_w m_pastMany m_filled m_length m_listMany m_went m_cost m_cause m_looks m_isSent m_isOld m_keptMany m_commandMany x5 x1 r_17 hc_18) ⟨callB_of 2 hts (k_good u_929) rfl rfl rfl (hu _ u_51) (hu _ u_926) (by decide +kernel) ⟨Nat.le_of_ble_eq_true rfl, Nat.le_of_ble_eq_true rfl⟩, hu _ u_928, hu _ u_34⟩ rfl rfl rfl (by decide) rfl hl.1 rfl (Nat.le_of_ble_eq_true rfl) dX6_goOn_28 (fun H locs hP hD hS => ?_)
          refine lv_bipush (v := (-9 : Int32)) hx hb dX6_goOn_31 (by decide) ?_
          refine lv_icmp_eq (tgt := 40) hx hb dX6_goOn_33 (by decide) (fun cc_19 => ?_) (fun cc_19 => ?_)
          · have h := (if_pos cc_19).symm.trans h
            refine lv_iconst (v := (0 : Int32)) hx hb dX6_goOn_40 (by decide) ?_
            exact w41 x1 x2 x3 x4 x5 (0 : Int32) m_w m_may m_least m_isCarried m_list m_listMany m_cause m_looks _ _ _ hP hD hS (lv_sub hl [0, 1, 2, 3, 4, 5] rfl) h
          · have h := (if_neg cc_19).symm.trans h
            refine lv_iconst (v := (1 : Int32)) hx hb dX6_goOn_36 (by decide) ?_
            refine lv_goto (tgt := 41) hx hb dX6_goOn_37 (by decide) ?_
            exact w41 x1 x2 x3 x4 x5 (1 : Int32) m_w m_may m_least m_isCarried m_list m_listMany m_cause m_looks _ _ _ hP hD hS (lv_sub hl [0, 1, 2, 3, 4, 5] rfl) h
  refine lv_iconst (v := (0 : Int32)) hx hb dX6_goOn_0 (by decide) ?_
  refine lv_istore (lv' := [(5, .int (0 : Int32)), (0, .ref qm), (1, .int p1), (2, .int p2), (3, .int p3), (4, .int p4)]) hx hb dX6_goOn_1 hl (by decide) rfl (fun ls hl => ?_)
  exact w3 1000 p1 p2 p3 p4 (0 : Int32) m_w m_may m_least m_isCarried m_list m_listMany m_cause m_looks _ _ _ hP hD hS (lv_sub hl [1, 2, 3, 4, 5, 0] rfl) h
def f_X6_runLetter_b119 (k56 : Int32 → Int32 → Int32 → (Nat → Int32) → (Nat → Int32) → (Nat → Int32) → (Nat → Int32) → (Nat → Int32) → (Nat → Int32) → Int32 → Int32 → Int32 → Int32 → Int32 → Option ((Nat → Int32) × (Nat → Int32) × (Nat → Int32) × (Nat → Int32) × (Nat → Int32) × Int32 × Int32 × Int32 × Int32 × Int32)) (x2 : Int32) (x3 : Int32) (x4 : Int32) (x5 : Int32) (m_w : (Nat → Int32)) (m_may : (Nat → Int32)) (m_least : (Nat → Int32)) (m_isCarried : (Nat → Int32)) (m_list : (Nat → Int32)) (m_nodes : (Nat → Int32)) (m_listMany : Int32) (m_went : Int32) (m_cost : Int32) (m_cause : Int32) (m_looks : Int32) : Option ((Nat → Int32) × (Nat → Int32) × (Nat → Int32) × (Nat → Int32) × (Nat → Int32) × Int32 × Int32 × Int32 × Int32 × Int32) :=
  if x5 = (-9 : Int32) then
    k56 x2 x3 x4 m_w m_may m_least m_isCarried m_list m_nodes m_listMany m_went m_cost m_cause m_looks
  else
    if inb m_went 41 = true then
    (f_X6_otherEnd x5 (m_nodes (Int32.toNatClampNeg m_went)) m_w).bind fun r_19 =>
    if inb (m_went + (1 : Int32)) 41 = true then
    (f_X6_of x5 (2 : Int32) m_w).bind fun r_22 =>
    k56 x2 x3 x4 m_w m_may m_least m_isCarried m_list (upd m_nodes (Int32.toNatClampNeg (m_went + (1 : Int32))) r_19) m_listMany (m_went + (1 : Int32)) (m_cost + r_22) m_cause m_looks
    else none
    else none
def f_X6_runLetter_b56  : Nat → Int32 → Int32 → Int32 → (Nat → Int32) → (Nat → Int32) → (Nat → Int32) → (Nat → Int32) → (Nat → Int32) → (Nat → Int32) → Int32 → Int32 → Int32 → Int32 → Int32 → Option ((Nat → Int32) × (Nat → Int32) × (Nat → Int32) × (Nat → Int32) × (Nat → Int32) × Int32 × Int32 × Int32 × Int32 × Int32)
  | 0, _, _, _, _, _, _, _, _, _, _, _, _, _, _ => none
  | n + 1, x2, x3, x4, m_w, m_may, m_least, m_isCarried, m_list, m_nodes, m_listMany, m_went, m_cost, m_cause, m_looks =>
    if inb m_went 41 = true then
    if (m_nodes (Int32.toNatClampNeg m_went)) = x2 then
      some (m_may, m_least, m_isCarried, m_list, m_nodes, m_listMany, m_went, m_cost, m_cause, m_looks)
    else
      if m_cause = (0 : Int32) then
        (f_X6_goOn (m_nodes (Int32.toNatClampNeg m_went)) x2 x3 x4 m_w m_may m_least m_isCarried m_list m_listMany m_cause m_looks).bind fun ⟨r_6, o_7, o_8, o_9, o_10, o_11, o_12, o_13⟩ =>
        if r_6 = (-9 : Int32) then
          f_X6_runLetter_b119 (f_X6_runLetter_b56 n) x2 x3 x4 r_6 m_w o_7 o_8 o_9 o_10 m_nodes o_11 m_went m_cost o_12 o_13
        else
          if m_went = (40 : Int32) then
            (f_X6_runLetter_b56 n) x2 x3 x4 m_w o_7 o_8 o_9 o_10 m_nodes o_11 m_went m_cost (3 : Int32) o_13
          else
            f_X6_runLetter_b119 (f_X6_runLetter_b56 n) x2 x3 x4 r_6 m_w o_7 o_8 o_9 o_10 m_nodes o_11 m_went m_cost o_12 o_13
      else
        some (m_may, m_least, m_isCarried, m_list, m_nodes, m_listMany, m_went, m_cost, m_cause, m_looks)
    else none
def f_X6_runLetter_b3  : Nat → Int32 → Int32 → Int32 → Int32 → Int32 → (Nat → Int32) → (Nat → Int32) → (Nat → Int32) → (Nat → Int32) → (Nat → Int32) → (Nat → Int32) → Int32 → Int32 → Int32 → Int32 → Int32 → Option ((Nat → Int32) × (Nat → Int32) × (Nat → Int32) × (Nat → Int32) × (Nat → Int32) × Int32 × Int32 × Int32 × Int32 × Int32)
  | 0, _, _, _, _, _, _, _, _, _, _, _, _, _, _, _, _ => none
  | n + 1, x1, x2, x3, x4, x5, m_w, m_may, m_least, m_isCarried, m_list, m_nodes, m_listMany, m_went, m_cost, m_cause, m_looks =>
    if (18 : Int32) ≤ x5 then
      f_X6_runLetter_b56 1000 x2 x3 x4 m_w m_may m_least m_isCarried m_list (upd m_nodes (Int32.toNatClampNeg (0 : Int32)) x1) (0 : Int32) (0 : Int32) (0 : Int32) (0 : Int32) (0 : Int32)
    else
      if inb x5 18 = true then
      (f_X6_runLetter_b3 n) x1 x2 x3 x4 (x5 + (1 : Int32)) m_w m_may m_least (upd m_isCarried (Int32.toNatClampNeg x5) (0 : Int32)) m_list m_nodes m_listMany m_went m_cost m_cause m_looks
      else none
def f_X6_runLetter (p1 : Int32) (p2 : Int32) (p3 : Int32) (p4 : Int32) (m_w : (Nat → Int32)) (m_may : (Nat → Int32)) (m_least : (Nat → Int32)) (m_isCarried : (Nat → Int32)) (m_list : (Nat → Int32)) (m_nodes : (Nat → Int32)) (m_listMany : Int32) (m_went : Int32) (m_cost : Int32) (m_cause : Int32) (m_looks : Int32) : Option ((Nat → Int32) × (Nat → Int32) × (Nat → Int32) × (Nat → Int32) × (Nat → Int32) × Int32 × Int32 × Int32 × Int32 × Int32) :=
  f_X6_runLetter_b3 1000 p1 p2 p3 p4 (0 : Int32) m_w m_may m_least m_isCarried m_list m_nodes m_listMany m_went m_cost m_cause m_looks
set_option maxHeartbeats 4000000 in
set_option maxRecDepth 100000 in
theorem c_X6_runLetter (l : Launch) (D : va_G) (cI cZ cN : ClassId) (aK aV : Nat → Nat)  (qm : Nat) (qm_w : Nat) (qm_past : Nat) (qm_images : Nat) (qm_text : Nat) (qm_may : Nat) (qm_least : Nat) (qm_isCarried : Nat) (qm_list : Nat) (qm_nodes : Nat) (qm_kept : Nat) (qm_keptLow : Nat) (qm_keptHigh : Nat) (qm_keptNodes : Nat) (qm_numbers : Nat) (qm_sums : Nat) (qm_commands : Nat) (qm_held : Nat) (m_w : (Nat → Int32)) (m_pastMany : Int32) (m_filled : Int32) (m_length : Int32) (m_may : (Nat → Int32)) (m_least : (Nat → Int32)) (m_isCarried : (Nat → Int32)) (m_list : (Nat → Int32)) (m_nodes : (Nat → Int32)) (m_listMany : Int32) (m_went : Int32) (m_cost : Int32) (m_cause : Int32) (m_looks : Int32) (m_isSent : Int32) (m_isOld : Int32) (m_keptMany : Int32) (m_commandMany : Int32) (p1 p2 p3 p4 : Int32) (z_m_may : (Nat → Int32)) (z_m_least : (Nat → Int32)) (z_m_isCarried : (Nat → Int32)) (z_m_list : (Nat → Int32)) (z_m_nodes : (Nat → Int32)) (z_m_listMany : Int32) (z_m_went : Int32) (z_m_cost : Int32) (z_m_cause : Int32) (z_m_looks : Int32) (h : f_X6_runLetter p1 p2 p3 p4 m_w m_may m_least m_isCarried m_list m_nodes m_listMany m_went m_cost m_cause m_looks = some (z_m_may, z_m_least, z_m_isCarried, z_m_list, z_m_nodes, z_m_listMany, z_m_went, z_m_cost, z_m_cause, z_m_looks)) : CtV l D cI cZ cN aK aV yX6_runLetter (k_W yX6_runLetter cX6_runLetter 6 none) { frames := 4, cells := 0, slots := 0, locals := 94 } [.ref qm, .int p1, .int p2, .int p3, .int p4] [(qm, .inr (6, [.ref qm_w, .ref qm_past, .int m_pastMany, .ref qm_images, .int m_filled, .ref qm_text, .int m_length, .ref qm_may, .ref qm_least, .ref qm_isCarried, .ref qm_list, .ref qm_nodes, .int m_listMany, .int m_went, .int m_cost, .int m_cause, .int m_looks, .int m_isSent, .int m_isOld, .ref qm_kept, .ref qm_keptLow, .ref qm_keptHigh, .int m_keptMany, .ref qm_keptNodes, .ref qm_numbers, .ref qm_sums, .ref qm_commands, .int m_commandMany, .ref qm_held])), (qm_w, .inl (cI, 93, .inl m_w)), (qm_may, .inl (cZ, 18, .inl m_may)), (qm_least, .inl (cI, 9, .inl m_least)), (qm_isCarried, .inl (cZ, 18, .inl m_isCarried)), (qm_list, .inl (cI, 18, .inl m_list)), (qm_nodes, .inl (cI, 41, .inl m_nodes))] [(qm, .inr (6, [.ref qm_w, .ref qm_past, .int m_pastMany, .ref qm_images, .int m_filled, .ref qm_text, .int m_length, .ref qm_may, .ref qm_least, .ref qm_isCarried, .ref qm_list, .ref qm_nodes, .int z_m_listMany, .int z_m_went, .int z_m_cost, .int z_m_cause, .int z_m_looks, .int m_isSent, .int m_isOld, .ref qm_kept, .ref qm_keptLow, .ref qm_keptHigh, .int m_keptMany, .ref qm_keptNodes, .ref qm_numbers, .ref qm_sums, .ref qm_commands, .int m_commandMany, .ref qm_held])), (qm_w, .inl (cI, 93, .inl m_w)), (qm_may, .inl (cZ, 18, .inl z_m_may)), (qm_least, .inl (cI, 9, .inl z_m_least)), (qm_isCarried, .inl (cZ, 18, .inl z_m_isCarried)), (qm_list, .inl (cI, 18, .inl z_m_list)), (qm_nodes, .inl (cI, 41, .inl z_m_nodes))] := by
  refine k_startV (by decide) (Nat.le_of_ble_eq_true rfl) ?_
  intro p e s m below meth c A ls hx hb hr hml hown hts hlocks hT hZ hA hP hD hS hl
  have hK := hT.1
  have hu : ∀ w ∈ k_U, w.before ([.ref qm, .int p1, .int p2, .int p3, .int p4] : List Value).toArray s = true := fun w h => hts w (List.mem_cons_of_mem _ h)
  have hown : s.vm.findClass RX6 = some m.cls := hown
  have hl : lv_has ls 6 [(0, .ref qm), (1, .int p1), (2, .int p2), (3, .int p3), (4, .int p4)] := hl
  unfold f_X6_runLetter at h
  have w3 : ∀ (n3 : Nat) (x1 : Int32) (x2 : Int32) (x3 : Int32) (x4 : Int32) (x5 : Int32) (m_w : (Nat → Int32)) (m_may : (Nat → Int32)) (m_least : (Nat → Int32)) (m_isCarried : (Nat → Int32)) (m_list : (Nat → Int32)) (m_nodes : (Nat → Int32)) (m_listMany : Int32) (m_went : Int32) (m_cost : Int32) (m_cause : Int32) (m_looks : Int32) (H : Heap) (locs : List Loc) (ls : Array Slot), va_P D vwCl [(qm, .inr (6, [.ref qm_w, .ref qm_past, .int m_pastMany, .ref qm_images, .int m_filled, .ref qm_text, .int m_length, .ref qm_may, .ref qm_least, .ref qm_isCarried, .ref qm_list, .ref qm_nodes, .int m_listMany, .int m_went, .int m_cost, .int m_cause, .int m_looks, .int m_isSent, .int m_isOld, .ref qm_kept, .ref qm_keptLow, .ref qm_keptHigh, .int m_keptMany, .ref qm_keptNodes, .ref qm_numbers, .ref qm_sums, .ref qm_commands, .int m_commandMany, .ref qm_held])), (qm_w, .inl (cI, 93, .inl m_w)), (qm_may, .inl (cZ, 18, .inl m_may)), (qm_least, .inl (cI, 9, .inl m_least)), (qm_isCarried, .inl (cZ, 18, .inl m_isCarried)), (qm_list, .inl (cI, 18, .inl m_list)), (qm_nodes, .inl (cI, 41, .inl m_nodes))] H → va_D A [(qm, .inr (6, [.ref qm_w, .ref qm_past, .int m_pastMany, .ref qm_images, .int m_filled, .ref qm_text, .int m_length, .ref qm_may, .ref qm_least, .ref qm_isCarried, .ref qm_list, .ref qm_nodes, .int m_listMany, .int m_went, .int m_cost, .int m_cause, .int m_looks, .int m_isSent, .int m_isOld, .ref qm_kept, .ref qm_keptLow, .ref qm_keptHigh, .int m_keptMany, .ref qm_keptNodes, .ref qm_numbers, .ref qm_sums, .ref qm_commands, .int m_commandMany, .ref qm_held])), (qm_w, .inl (cI, 93, .inl m_w)), (qm_may, .inl (cZ, 18, .inl m_may)), (qm_least, .inl (cI, 9, .inl m_least)), (qm_isCarried, .inl (cZ, 18, .inl m_isCarried)), (qm_list, .inl (cI, 18, .inl m_list)), (qm_nodes, .inl (cI, 41, .inl m_nodes))] → va_S A s.heap H locs → lv_has ls 6 [(0, .ref qm), (1, .int x1), (2, .int x2), (3, .int x3), (4, .int x4), (5, .int x5)] → f_X6_runLetter_b3 n3 x1 x2 x3 x4 x5 m_w m_may m_least m_isCarried m_list m_nodes m_listMany m_went m_cost m_cause m_looks = some (z_m_may, z_m_least, z_m_isCarried, z_m_list, z_m_nodes, z_m_listMany, z_m_went, z_m_cost, z_m_cause, z_m_looks) → W p l e { frames := 4, cells := 0, slots := 0, locals := 94 } s m ([.ref qm, .int p1, .int p2, .int p3, .int p4] : List Value).toArray below meth c H locs 0 0 (MQ below (k_QV D [(qm, .inr (6, [.ref qm_w, .ref qm_past, .int m_pastMany, .ref qm_images, .int m_filled, .ref qm_text, .int m_length, .ref qm_may, .ref qm_least, .ref qm_isCarried, .ref qm_list, .ref qm_nodes, .int z_m_listMany, .int z_m_went, .int z_m_cost, .int z_m_cause, .int z_m_looks, .int m_isSent, .int m_isOld, .ref qm_kept, .ref qm_keptLow, .ref qm_keptHigh, .int m_keptMany, .ref qm_keptNodes, .ref qm_numbers, .ref qm_sums, .ref qm_commands, .int m_commandMany, .ref qm_held])), (qm_w, .inl (cI, 93, .inl m_w)), (qm_may, .inl (cZ, 18, .inl z_m_may)), (qm_least, .inl (cI, 9, .inl z_m_least)), (qm_isCarried, .inl (cZ, 18, .inl z_m_isCarried)), (qm_list, .inl (cI, 18, .inl z_m_list)), (qm_nodes, .inl (cI, 41, .inl z_m_nodes))] A) ([.ref qm, .int p1, .int p2, .int p3, .int p4] : List Value).toArray s 0 0 A) (F0 m 3 ls []) := by
    intro n3
    induction n3 with
    | zero =>
      intro x1 x2 x3 x4 x5 m_w m_may m_least m_isCarried m_list m_nodes m_listMany m_went m_cost m_cause m_looks H locs ls hP hD hS hl h
      rw [f_X6_runLetter_b3] at h
      cases h
    | succ n3 ih3 =>
      intro x1 x2 x3 x4 x5 m_w m_may m_least m_isCarried m_list m_nodes m_listMany m_went m_cost m_cause m_looks H locs ls hP hD hS hl h
      rw [f_X6_runLetter_b3] at h
      have w56 : ∀ (n56 : Nat) (x2 : Int32) (x3 : Int32) (x4 : Int32) (m_w : (Nat → Int32)) (m_may : (Nat → Int32)) (m_least : (Nat → Int32)) (m_isCarried : (Nat → Int32)) (m_list : (Nat → Int32)) (m_nodes : (Nat → Int32)) (m_listMany : Int32) (m_went : Int32) (m_cost : Int32) (m_cause : Int32) (m_looks : Int32) (H : Heap) (locs : List Loc) (ls : Array Slot), va_P D vwCl [(qm, .inr (6, [.ref qm_w, .ref qm_past, .int m_pastMany, .ref qm_images, .int m_filled, .ref qm_text, .int m_length, .ref qm_may, .ref qm_least, .ref qm_isCarried, .ref qm_list, .ref qm_nodes, .int m_listMany, .int m_went, .int m_cost, .int m_cause, .int m_looks, .int m_isSent, .int m_isOld, .ref qm_kept, .ref qm_keptLow, .ref qm_keptHigh, .int m_keptMany, .ref qm_keptNodes, .ref qm_numbers, .ref qm_sums, .ref qm_commands, .int m_commandMany, .ref qm_held])), (qm_w, .inl (cI, 93, .inl m_w)), (qm_may, .inl (cZ, 18, .inl m_may)), (qm_least, .inl (cI, 9, .inl m_least)), (qm_isCarried, .inl (cZ, 18, .inl m_isCarried)), (qm_list, .inl (cI, 18, .inl m_list)), (qm_nodes, .inl (cI, 41, .inl m_nodes))] H → va_D A [(qm, .inr (6, [.ref qm_w, .ref qm_past, .int m_pastMany, .ref qm_images, .int m_filled, .ref qm_text, .int m_length, .ref qm_may, .ref qm_least, .ref qm_isCarried, .ref qm_list, .ref qm_nodes, .int m_listMany, .int m_went, .int m_cost, .int m_cause, .int m_looks, .int m_isSent, .int m_isOld, .ref qm_kept, .ref qm_keptLow, .ref qm_keptHigh, .int m_keptMany, .ref qm_keptNodes, .ref qm_numbers, .ref qm_sums, .ref qm_commands, .int m_commandMany, .ref qm_held])), (qm_w, .inl (cI, 93, .inl m_w)), (qm_may, .inl (cZ, 18, .inl m_may)), (qm_least, .inl (cI, 9, .inl m_least)), (qm_isCarried, .inl (cZ, 18, .inl m_isCarried)), (qm_list, .inl (cI, 18, .inl m_list)), (qm_nodes, .inl (cI, 41, .inl m_nodes))] → va_S A s.heap H locs → lv_has ls 6 [(0, .ref qm), (2, .int x2), (3, .int x3), (4, .int x4)] → f_X6_runLetter_b56 n56 x2 x3 x4 m_w m_may m_least m_isCarried m_list m_nodes m_listMany m_went m_cost m_cause m_looks = some (z_m_may, z_m_least, z_m_isCarried, z_m_list, z_m_nodes, z_m_listMany, z_m_went, z_m_cost, z_m_cause, z_m_looks) → W p l e { frames := 4, cells := 0, slots := 0, locals := 94 } s m ([.ref qm, .int p1, .int p2, .int p3, .int p4] : List Value).toArray below meth c H locs 0 0 (MQ below (k_QV D [(qm, .inr (6, [.ref qm_w, .ref qm_past, .int m_pastMany, .ref qm_images, .int m_filled, .ref qm_text, .int m_length, .ref qm_may, .ref qm_least, .ref qm_isCarried, .ref qm_list, .ref qm_nodes, .int z_m_listMany, .int z_m_went, .int z_m_cost, .int z_m_cause, .int z_m_looks, .int m_isSent, .int m_isOld, .ref qm_kept, .ref qm_keptLow, .ref qm_keptHigh, .int m_keptMany, .ref qm_keptNodes, .ref qm_numbers, .ref qm_sums, .ref qm_commands, .int m_commandMany, .ref qm_held])), (qm_w, .inl (cI, 93, .inl m_w)), (qm_may, .inl (cZ, 18, .inl z_m_may)), (qm_least, .inl (cI, 9, .inl z_m_least)), (qm_isCarried, .inl (cZ, 18, .inl z_m_isCarried)), (qm_list, .inl (cI, 18, .inl z_m_list)), (qm_nodes, .inl (cI, 41, .inl z_m_nodes))] A) ([.ref qm, .int p1, .int p2, .int p3, .int p4] : List Value).toArray s 0 0 A) (F0 m 56 ls []) := by
        intro n56
        induction n56 with
        | zero =>
          intro x2 x3 x4 m_w m_may m_least m_isCarried m_list m_nodes m_listMany m_went m_cost m_cause m_looks H locs ls hP hD hS hl h
          rw [f_X6_runLetter_b56] at h
          cases h
        | succ n56 ih56 =>
          intro x2 x3 x4 m_w m_may m_least m_isCarried m_list m_nodes m_listMany m_went m_cost m_cause m_looks H locs ls hP hD hS hl h
          rw [f_X6_runLetter_b56] at h
          have w119 : ∀  (x2 : Int32) (x3 : Int32) (x4 : Int32) (x5 : Int32) (m_w : (Nat → Int32)) (m_may : (Nat → Int32)) (m_least : (Nat → Int32)) (m_isCarried : (Nat → Int32)) (m_list : (Nat → Int32)) (m_nodes : (Nat → Int32)) (m_listMany : Int32) (m_went : Int32) (m_cost : Int32) (m_cause : Int32) (m_looks : Int32) (H : Heap) (locs : List Loc) (ls : Array Slot), va_P D vwCl [(qm, .inr (6, [.ref qm_w, .ref qm_past, .int m_pastMany, .ref qm_images, .int m_filled, .ref qm_text, .int m_length, .ref qm_may, .ref qm_least, .ref qm_isCarried, .ref qm_list, .ref qm_nodes, .int m_listMany, .int m_went, .int m_cost, .int m_cause, .int m_looks, .int m_isSent, .int m_isOld, .ref qm_kept, .ref qm_keptLow, .ref qm_keptHigh, .int m_keptMany, .ref qm_keptNodes, .ref qm_numbers, .ref qm_sums, .ref qm_commands, .int m_commandMany, .ref qm_held])), (qm_w, .inl (cI, 93, .inl m_w)), (qm_may, .inl (cZ, 18, .inl m_may)), (qm_least, .inl (cI, 9, .inl m_least)), (qm_isCarried, .inl (cZ, 18, .inl m_isCarried)), (qm_list, .inl (cI, 18, .inl m_list)), (qm_nodes, .inl (cI, 41, .inl m_nodes))] H → va_D A [(qm, .inr (6, [.ref qm_w, .ref qm_past, .int m_pastMany, .ref qm_images, .int m_filled, .ref qm_text, .int m_length, .ref qm_may, .ref qm_least, .ref qm_isCarried, .ref qm_list, .ref qm_nodes, .int m_listMany, .int m_went, .int m_cost, .int m_cause, .int m_looks, .int m_isSent, .int m_isOld, .ref qm_kept, .ref qm_keptLow, .ref qm_keptHigh, .int m_keptMany, .ref qm_keptNodes, .ref qm_numbers, .ref qm_sums, .ref qm_commands, .int m_commandMany, .ref qm_held])), (qm_w, .inl (cI, 93, .inl m_w)), (qm_may, .inl (cZ, 18, .inl m_may)), (qm_least, .inl (cI, 9, .inl m_least)), (qm_isCarried, .inl (cZ, 18, .inl m_isCarried)), (qm_list, .inl (cI, 18, .inl m_list)), (qm_nodes, .inl (cI, 41, .inl m_nodes))] → va_S A s.heap H locs → lv_has ls 6 [(0, .ref qm), (2, .int x2), (3, .int x3), (4, .int x4), (5, .int x5)] → f_X6_runLetter_b119 (f_X6_runLetter_b56 n56) x2 x3 x4 x5 m_w m_may m_least m_isCarried m_list m_nodes m_listMany m_went m_cost m_cause m_looks = some (z_m_may, z_m_least, z_m_isCarried, z_m_list, z_m_nodes, z_m_listMany, z_m_went, z_m_cost, z_m_cause, z_m_looks) → W p l e { frames := 4, cells := 0, slots := 0, locals := 94 } s m ([.ref qm, .int p1, .int p2, .int p3, .int p4] : List Value).toArray below meth c H locs 0 0 (MQ below (k_QV D [(qm, .inr (6, [.ref qm_w, .ref qm_past, .int m_pastMany, .ref qm_images, .int m_filled, .ref qm_text, .int m_length, .ref qm_may, .ref qm_least, .ref qm_isCarried, .ref qm_list, .ref qm_nodes, .int z_m_listMany, .int z_m_went, .int z_m_cost, .int z_m_cause, .int z_m_looks, .int m_isSent, .int m_isOld, .ref qm_kept, .ref qm_keptLow, .ref qm_keptHigh, .int m_keptMany, .ref qm_keptNodes, .ref qm_numbers, .ref qm_sums, .ref qm_commands, .int m_commandMany, .ref qm_held])), (qm_w, .inl (cI, 93, .inl m_w)), (qm_may, .inl (cZ, 18, .inl z_m_may)), (qm_least, .inl (cI, 9, .inl z_m_least)), (qm_isCarried, .inl (cZ, 18, .inl z_m_isCarried)), (qm_list, .inl (cI, 18, .inl z_m_list)), (qm_nodes, .inl (cI, 41, .inl z_m_nodes))] A) ([.ref qm, .int p1, .int p2, .int p3, .int p4] : List Value).toArray s 0 0 A) (F0 m 119 ls []) := by
            intro x2 x3 x4 x5 m_w m_may m_least m_isCarried m_list m_nodes m_listMany m_went m_cost m_cause m_looks H locs ls hP hD hS hl h
            unfold f_X6_runLetter_b119 at h
            refine lv_iload hx hb dX6_runLetter_119 (lv_at hl 4 rfl) ?_
            refine lv_bipush (v := (-9 : Int32)) hx hb dX6_runLetter_121 (by decide) ?_
            refine lv_icmp_eq (tgt := 178) hx hb dX6_runLetter_123 (by decide) (fun cc_17 => ?_) (fun cc_17 => ?_)
            · have h := (if_pos cc_17).symm.trans h
              refine lv_goto (tgt := 56) hx hb dX6_runLetter_178 (by decide) ?_
              exact ih56 x2 x3 x4 m_w m_may m_least m_isCarried m_list m_nodes m_listMany m_went m_cost m_cause m_looks _ _ _ hP hD hS (lv_sub hl [0, 1, 2, 3] rfl) h
            · have h := (if_neg cc_17).symm.trans h
              refine lv_aload_n hx hb dX6_runLetter_126 rfl (lv_at hl 0 rfl) ?_
              refine va_get (D := D) (ci := 6) (v := .ref qm_nodes) (C := RX6) (T := TX6) (N := 29) hx hb hu k_iX6 hown hK hP 0 rfl rfl 11 (by decide) (hu _ u_729) (fun _ h9 => h9) rfl dX6_runLetter_127 ?_
              refine lv_aload_n hx hb dX6_runLetter_130 rfl (lv_at hl 0 rfl) ?_
              refine va_get (D := D) (ci := 6) (v := .int m_went) (C := RX6) (T := TX6) (N := 29) hx hb hu k_iX6 hown hK hP 0 rfl rfl 13 (by decide) (hu _ u_731) (fun _ h9 => h9) rfl dX6_runLetter_131 ?_
              refine lv_iconst (v := (1 : Int32)) hx hb dX6_runLetter_134 (by decide) ?_
              refine lv_iadd hx hb dX6_runLetter_135 ?_
              refine lv_aload_n hx hb dX6_runLetter_136 rfl (lv_at hl 0 rfl) ?_
              refine lv_iload hx hb dX6_runLetter_137 (lv_at hl 4 rfl) ?_
              refine lv_aload_n hx hb dX6_runLetter_139 rfl (lv_at hl 0 rfl) ?_
              refine va_get (D := D) (ci := 6) (v := .ref qm_nodes) (C := RX6) (T := TX6) (N := 29) hx hb hu k_iX6 hown hK hP 0 rfl rfl 11 (by decide) (hu _ u_729) (fun _ h9 => h9) rfl dX6_runLetter_140 ?_
              refine lv_aload_n hx hb dX6_runLetter_143 rfl (lv_at hl 0 rfl) ?_
              refine va_get (D := D) (ci := 6) (v := .int m_went) (C := RX6) (T := TX6) (N := 29) hx hb hu k_iX6 hown hK hP 0 rfl rfl 13 (by decide) (hu _ u_731) (fun _ h9 => h9) rfl dX6_runLetter_144 ?_
              obtain ⟨hin_18, h⟩ := ob_if h
              have hin_18 := inb_in hin_18
              refine va_iald (D := D) hx hb hK hP 6 0 rfl rfl hin_18 dX6_runLetter_147 ?_
              obtain ⟨r_19, hc_20, h⟩ := ob_bind h
              refine k_callVIr (qb := 0) [0, 1] (As := [.int x5, .int (m_nodes (Int32.toNatClampNeg m_went))]) (rest := [.int (m_went + (1 : Int32)), .ref qm_nodes]) ⟨hx, hb, hml, hown, hts⟩ hT hZ hA hP hD hS (c_X6_otherEnd l D cI cZ cN aK aV qm qm_w qm_past qm_images qm_text qm_may qm_least qm_isCarried qm_list qm_nodes qm_kept qm_keptLow qm_keptHigh qm_keptNodes qm_numbers qm_sums qm_commands qm_held m_w m_pastMany m_filled m_length m_listMany m_went m_cost m_cause m_looks m_isSent m_isOld m_keptMany m_commandMany x5 (m_nodes (Int32.toNatClampNeg m_went)) r_19 hc_20) ⟨callB_of 2 hts (k_good u_929) rfl rfl rfl (hu _ u_51) (hu _ u_926) (by decide +kernel) ⟨Nat.le_of_ble_eq_true rfl, Nat.le_of_ble_eq_true rfl⟩, hu _ u_928, hu _ u_34⟩ rfl rfl rfl (by decide) rfl hl.1 rfl (Nat.le_of_ble_eq_true rfl) dX6_runLetter_148 (fun H locs hP hD hS => ?_)
              obtain ⟨hin_21, h⟩ := ob_if h
              have hin_21 := inb_in hin_21
              refine va_iast (D := D) hx hb hK hP hD hS 6 0 rfl rfl hin_21 dX6_runLetter_151 (fun H locs hP hD hS => ?_)
              have hP : va_P D vwCl [(qm, .inr (6, [.ref qm_w, .ref qm_past, .int m_pastMany, .ref qm_images, .int m_filled, .ref qm_text, .int m_length, .ref qm_may, .ref qm_least, .ref qm_isCarried, .ref qm_list, .ref qm_nodes, .int m_listMany, .int m_went, .int m_cost, .int m_cause, .int m_looks, .int m_isSent, .int m_isOld, .ref qm_kept, .ref qm_keptLow, .ref qm_keptHigh, .int m_keptMany, .ref qm_keptNodes, .ref qm_numbers, .ref qm_sums, .ref qm_commands, .int m_commandMany, .ref qm_held])), (qm_w, .inl (cI, 93, .inl m_w)), (qm_may, .inl (cZ, 18, .inl m_may)), (qm_least, .inl (cI, 9, .inl m_least)), (qm_isCarried, .inl (cZ, 18, .inl m_isCarried)), (qm_list, .inl (cI, 18, .inl m_list)), (qm_nodes, .inl (cI, 41, .inl (upd m_nodes (Int32.toNatClampNeg (m_went + (1 : Int32))) r_19)))] H := hP
              have hD : va_D A [(qm, .inr (6, [.ref qm_w, .ref qm_past, .int m_pastMany, .ref qm_images, .int m_filled, .ref qm_text, .int m_length, .ref qm_may, .ref qm_least, .ref qm_isCarried, .ref qm_list, .ref qm_nodes, .int m_listMany, .int m_went, .int m_cost, .int m_cause, .int m_looks, .int m_isSent, .int m_isOld, .ref qm_kept, .ref qm_keptLow, .ref qm_keptHigh, .int m_keptMany, .ref qm_keptNodes, .ref qm_numbers, .ref qm_sums, .ref qm_commands, .int m_commandMany, .ref qm_held])), (qm_w, .inl (cI, 93, .inl m_w)), (qm_may, .inl (cZ, 18, .inl m_may)), (qm_least, .inl (cI, 9, .inl m_least)), (qm_isCarried, .inl (cZ, 18, .inl m_isCarried)), (qm_list, .inl (cI, 18, .inl m_list)), (qm_nodes, .inl (cI, 41, .inl (upd m_nodes (Int32.toNatClampNeg (m_went + (1 : Int32))) r_19)))] := hD
              refine lv_aload_n hx hb dX6_runLetter_152 rfl (lv_at hl 0 rfl) ?_
              refine lv_dup hx hb dX6_runLetter_153 rfl ?_
              refine va_get (D := D) (ci := 6) (v := .int m_cost) (C := RX6) (T := TX6) (N := 29) hx hb hu k_iX6 hown hK hP 0 rfl rfl 14 (by decide) (hu _ u_732) (fun _ h9 => h9) rfl dX6_runLetter_154 ?_
              refine lv_aload_n hx hb dX6_runLetter_157 rfl (lv_at hl 0 rfl) ?_
              refine lv_iload hx hb dX6_runLetter_158 (lv_at hl 4 rfl) ?_
              refine lv_iconst (v := (2 : Int32)) hx hb dX6_runLetter_160 (by decide) ?_
              obtain ⟨r_22, hc_23, h⟩ := ob_bind h
              refine k_callVIr (qb := 0) [0, 1] (As := [.int x5, .int (2 : Int32)]) (rest := [.int m_cost, .ref qm]) ⟨hx, hb, hml, hown, hts⟩ hT hZ hA hP hD hS (c_X6_of l D cI cZ cN aK aV qm qm_w qm_past qm_images qm_text qm_may qm_least qm_isCarried qm_list qm_nodes qm_kept qm_keptLow qm_keptHigh qm_keptNodes qm_numbers qm_sums qm_commands qm_held m_w m_pastMany m_filled m_length m_listMany m_went m_cost m_cause m_looks m_isSent m_isOld m_keptMany m_commandMany x5 (2 : Int32) r_22 hc_23) ⟨callB_of 2 hts (k_good u_840) rfl rfl rfl (hu _ u_51) (hu _ u_837) (by decide +kernel) ⟨Nat.le_of_ble_eq_true rfl, Nat.le_of_ble_eq_true rfl⟩, hu _ u_839, hu _ u_23⟩ rfl rfl rfl (by decide) rfl hl.1 rfl (Nat.le_of_ble_eq_true rfl) dX6_runLetter_161 (fun H locs hP hD hS => ?_)
              refine lv_iadd hx hb dX6_runLetter_164 ?_
              refine va_put (D := D) (ci := 6) (v := .int (m_cost + r_22)) (ty := .int) (C := RX6) (T := TX6) (N := 29) hx hb hu k_iX6 tyX6 tyX6_ok nmX6 hown hK hP hD hS 0 rfl rfl 14 (by decide) (hu _ u_732) (fun _ h9 => h9) rfl (by decide +kernel) rfl rfl (Nat.le_of_ble_eq_true rfl) dX6_runLetter_165 (fun H locs hP hD hS => ?_)
              have hP : va_P D vwCl [(qm, .inr (6, [.ref qm_w, .ref qm_past, .int m_pastMany, .ref qm_images, .int m_filled, .ref qm_text, .int m_length, .ref qm_may, .ref qm_least, .ref qm_isCarried, .ref qm_list, .ref qm_nodes, .int m_listMany, .int m_went, .int (m_cost + r_22), .int m_cause, .int m_looks, .int m_isSent, .int m_isOld, .ref qm_kept, .ref qm_keptLow, .ref qm_keptHigh, .int m_keptMany, .ref qm_keptNodes, .ref qm_numbers, .ref qm_sums, .ref qm_commands, .int m_commandMany, .ref qm_held])), (qm_w, .inl (cI, 93, .inl m_w)), (qm_may, .inl (cZ, 18, .inl m_may)), (qm_least, .inl (cI, 9, .inl m_least)), (qm_isCarried, .inl (cZ, 18, .inl m_isCarried)), (qm_list, .inl (cI, 18, .inl m_list)), (qm_nodes, .inl (cI, 41, .inl (upd m_nodes (Int32.toNatClampNeg (m_went + (1 : Int32))) r_19)))] H := hP
              have hD : va_D A [(qm, .inr (6, [.ref qm_w, .ref qm_past, .int m_pastMany, .ref qm_images, .int m_filled, .ref qm_text, .int m_length, .ref qm_may, .ref qm_least, .ref qm_isCarried, .ref qm_list, .ref qm_nodes, .int m_listMany, .int m_went, .int (m_cost + r_22), .int m_cause, .int m_looks, .int m_isSent, .int m_isOld, .ref qm_kept, .ref qm_keptLow, .ref qm_keptHigh, .int m_keptMany, .ref qm_keptNodes, .ref qm_numbers, .ref qm_sums, .ref qm_commands, .int m_commandMany, .ref qm_held])), (qm_w, .inl (cI, 93, .inl m_w)), (qm_may, .inl (cZ, 18, .inl m_may)), (qm_least, .inl (cI, 9, .inl m_least)), (qm_isCarried, .inl (cZ, 18, .inl m_isCarried)), (qm_list, .inl (cI, 18, .inl m_list)), (qm_nodes, .inl (cI, 41, .inl (upd m_nodes (Int32.toNatClampNeg (m_went + (1 : Int32))) r_19)))] := hD
              refine lv_aload_n hx hb dX6_runLetter_168 rfl (lv_at hl 0 rfl) ?_
              refine lv_dup hx hb dX6_runLetter_169 rfl ?_
              refine va_get (D := D) (ci := 6) (v := .int m_went) (C := RX6) (T := TX6) (N := 29) hx hb hu k_iX6 hown hK hP 0 rfl rfl 13 (by decide) (hu _ u_731) (fun _ h9 => h9) rfl dX6_runLetter_170 ?_
              refine lv_iconst (v := (1 : Int32)) hx hb dX6_runLetter_173 (by decide) ?_
              refine lv_iadd hx hb dX6_runLetter_174 ?_
              refine va_put (D := D) (ci := 6) (v := .int (m_went + (1 : Int32))) (ty := .int) (C := RX6) (T := TX6) (N := 29) hx hb hu k_iX6 tyX6 tyX6_ok nmX6 hown hK hP hD hS 0 rfl rfl 13 (by decide) (hu _ u_731) (fun _ h9 => h9) rfl (by decide +kernel) rfl rfl (Nat.le_of_ble_eq_true rfl) dX6_runLetter_175 (fun H locs hP hD hS => ?_)
              have hP : va_P D vwCl [(qm, .inr (6, [.ref qm_w, .ref qm_past, .int m_pastMany, .ref qm_images, .int m_filled, .ref qm_text, .int m_length, .ref qm_may, .ref qm_least, .ref qm_isCarried, .ref qm_list, .ref qm_nodes, .int m_listMany, .int (m_went + (1 : Int32)), .int (m_cost + r_22), .int m_cause, .int m_looks, .int m_isSent, .int m_isOld, .ref qm_kept, .ref qm_keptLow, .ref qm_keptHigh, .int m_keptMany, .ref qm_keptNodes, .ref qm_numbers, .ref qm_sums, .ref qm_commands, .int m_commandMany, .ref qm_held])), (qm_w, .inl (cI, 93, .inl m_w)), (qm_may, .inl (cZ, 18, .inl m_may)), (qm_least, .inl (cI, 9, .inl m_least)), (qm_isCarried, .inl (cZ, 18, .inl m_isCarried)), (qm_list, .inl (cI, 18, .inl m_list)), (qm_nodes, .inl (cI, 41, .inl (upd m_nodes (Int32.toNatClampNeg (m_went + (1 : Int32))) r_19)))] H := hP
              have hD : va_D A [(qm, .inr (6, [.ref qm_w, .ref qm_past, .int m_pastMany, .ref qm_images, .int m_filled, .ref qm_text, .int m_length, .ref qm_may, .ref qm_least, .ref qm_isCarried, .ref qm_list, .ref qm_nodes, .int m_listMany, .int (m_went + (1 : Int32)), .int (m_cost + r_22), .int m_cause, .int m_looks, .int m_isSent, .int m_isOld, .ref qm_kept, .ref qm_keptLow, .ref qm_keptHigh, .int m_keptMany, .ref qm_keptNodes, .ref qm_numbers, .ref qm_sums, .ref qm_commands, .int m_commandMany, .ref qm_held])), (qm_w, .inl (cI, 93, .inl m_w)), (qm_may, .inl (cZ, 18, .inl m_may)), (qm_least, .inl (cI, 9, .inl m_least)), (qm_isCarried, .inl (cZ, 18, .inl m_isCarried)), (qm_list, .inl (cI, 18, .inl m_list)), (qm_nodes, .inl (cI, 41, .inl (upd m_nodes (Int32.toNatClampNeg (m_went + (1 : Int32))) r_19)))] := hD
              refine lv_goto (tgt := 56) hx hb dX6_runLetter_178 (by decide) ?_
              exact ih56 x2 x3 x4 m_w m_may m_least m_isCarried m_list (upd m_nodes (Int32.toNatClampNeg (m_went + (1 : Int32))) r_19) m_listMany (m_went + (1 : Int32)) (m_cost + r_22) m_cause m_looks _ _ _ hP hD hS (lv_sub hl [0, 1, 2, 3] rfl) h
          refine lv_aload_n hx hb dX6_runLetter_56 rfl (lv_at hl 0 rfl) ?_
          refine va_get (D := D) (ci := 6) (v := .ref qm_nodes) (C := RX6) (T := TX6) (N := 29) hx hb hu k_iX6 hown hK hP 0 rfl rfl 11 (by decide) (hu _ u_729) (fun _ h9 => h9) rfl dX6_runLetter_57 ?_
          refine lv_aload_n hx hb dX6_runLetter_60 rfl (lv_at hl 0 rfl) ?_
          refine va_get (D := D) (ci := 6) (v := .int m_went) (C := RX6) (T := TX6) (N := 29) hx hb hu k_iX6 hown hK hP 0 rfl rfl 13 (by decide) (hu _ u_731) (fun _ h9 => h9) rfl dX6_runLetter_61 ?_
          obtain ⟨hin_3, h⟩ := ob_if h
          have hin_3 := inb_in hin_3
          refine va_iald (D := D) hx hb hK hP 6 0 rfl rfl hin_3 dX6_runLetter_64 ?_
          refine lv_iload_n hx hb dX6_runLetter_65 rfl (lv_at hl 1 rfl) ?_
          refine lv_icmp_eq (tgt := 181) hx hb dX6_runLetter_66 (by decide) (fun cc_4 => ?_) (fun cc_4 => ?_)
          · have h := (if_pos cc_4).symm.trans h
            have hq := Option.some.inj h
            clear h
            obtain ⟨e0, hq0⟩ := Prod.mk.inj hq
            clear hq
            obtain ⟨e1, hq1⟩ := Prod.mk.inj hq0
            clear hq0
            obtain ⟨e2, hq2⟩ := Prod.mk.inj hq1
            clear hq1
            obtain ⟨e3, hq3⟩ := Prod.mk.inj hq2
            clear hq2
            obtain ⟨e4, hq4⟩ := Prod.mk.inj hq3
            clear hq3
            obtain ⟨e5, hq5⟩ := Prod.mk.inj hq4
            clear hq4
            obtain ⟨e6, hq6⟩ := Prod.mk.inj hq5
            clear hq5
            obtain ⟨e7, hq7⟩ := Prod.mk.inj hq6
            clear hq6
            obtain ⟨e8, hq8⟩ := Prod.mk.inj hq7
            clear hq7
            subst e0
            subst e1
            subst e2
            subst e3
            subst e4
            subst e5
            subst e6
            subst e7
            subst e8
            subst hq8
            exact k_retV hx hb hr hlocks hP hD hS dX6_runLetter_181
          · have h := (if_neg cc_4).symm.trans h
            refine lv_aload_n hx hb dX6_runLetter_69 rfl (lv_at hl 0 rfl) ?_
            refine va_get (D := D) (ci := 6) (v := .int m_cause) (C := RX6) (T := TX6) (N := 29) hx hb hu k_iX6 hown hK hP 0 rfl rfl 15 (by decide) (hu _ u_733) (fun _ h9 => h9) rfl dX6_runLetter_70 ?_
            refine lv_if_ne (tgt := 181) hx hb dX6_runLetter_73 (by decide) (fun cc_5 => ?_) (fun cc_5 => ?_)
            · have h := (if_neg cc_5).symm.trans h
              have hq := Option.some.inj h
              clear h
              obtain ⟨e0, hq0⟩ := Prod.mk.inj hq
              clear hq
              obtain ⟨e1, hq1⟩ := Prod.mk.inj hq0
              clear hq0
              obtain ⟨e2, hq2⟩ := Prod.mk.inj hq1
              clear hq1
              obtain ⟨e3, hq3⟩ := Prod.mk.inj hq2
              clear hq2
              obtain ⟨e4, hq4⟩ := Prod.mk.inj hq3
              clear hq3
              obtain ⟨e5, hq5⟩ := Prod.mk.inj hq4
              clear hq4
              obtain ⟨e6, hq6⟩ := Prod.mk.inj hq5
              clear hq5
              obtain ⟨e7, hq7⟩ := Prod.mk.inj hq6
              clear hq6
              obtain ⟨e8, hq8⟩ := Prod.mk.inj hq7
              clear hq7
              subst e0
              subst e1
              subst e2
              subst e3
              subst e4
              subst e5
              subst e6
              subst e7
              subst e8
              subst hq8
              exact k_retV hx hb hr hlocks hP hD hS dX6_runLetter_181
            · have h := (if_pos cc_5).symm.trans h
              refine lv_aload_n hx hb dX6_runLetter_76 rfl (lv_at hl 0 rfl) ?_
              refine lv_aload_n hx hb dX6_runLetter_77 rfl (lv_at hl 0 rfl) ?_
              refine va_get (D := D) (ci := 6) (v := .ref qm_nodes) (C := RX6) (T := TX6) (N := 29) hx hb hu k_iX6 hown hK hP 0 rfl rfl 11 (by decide) (hu _ u_729) (fun _ h9 => h9) rfl dX6_runLetter_78 ?_
              refine lv_aload_n hx hb dX6_runLetter_81 rfl (lv_at hl 0 rfl) ?_
              refine va_get (D := D) (ci := 6) (v := .int m_went) (C := RX6) (T := TX6) (N := 29) hx hb hu k_iX6 hown hK hP 0 rfl rfl 13 (by decide) (hu _ u_731) (fun _ h9 => h9) rfl dX6_runLetter_82 ?_
              refine va_iald (D := D) hx hb hK hP 6 0 rfl rfl hin_3 dX6_runLetter_85 ?_
              refine lv_iload_n hx hb dX6_runLetter_86 rfl (lv_at hl 1 rfl) ?_
              refine lv_iload_n hx hb dX6_runLetter_87 rfl (lv_at hl 2 rfl) ?_
              refine lv_iload hx hb dX6_runLetter_88 (lv_at hl 3 rfl) ?_
              obtain ⟨⟨r_6, o_7, o_8, o_9, o_10, o_11, o_12, o_13⟩, hc_14, h⟩ := ob_bind h
              dsimp only at h
              refine k_callVI (qb := 0) [0, 1, 2, 3, 4, 5] [0, 2, 3, 4, 5] [0, 2, 3, 4, 5] [(qm, .inr (6, [.ref qm_w, .ref qm_past, .int m_pastMany, .ref qm_images, .int m_filled, .ref qm_text, .int m_length, .ref qm_may, .ref qm_least, .ref qm_isCarried, .ref qm_list, .ref qm_nodes, .int o_11, .int m_went, .int m_cost, .int o_12, .int o_13, .int m_isSent, .int m_isOld, .ref qm_kept, .ref qm_keptLow, .ref qm_keptHigh, .int m_keptMany, .ref qm_keptNodes, .ref qm_numbers, .ref qm_sums, .ref qm_commands, .int m_commandMany, .ref qm_held])), (qm_may, .inl (cZ, 18, .inl o_7)), (qm_least, .inl (cI, 9, .inl o_8)), (qm_isCarried, .inl (cZ, 18, .inl o_9)), (qm_list, .inl (cI, 18, .inl o_10))] (As := [.int (m_nodes (Int32.toNatClampNeg m_went)), .int x2, .int x3, .int x4]) (rest := []) ⟨hx, hb, hml, hown, hts⟩ hT hZ hA hP hD hS (c_X6_goOn l D cI cZ cN aK aV qm qm_w qm_past qm_images qm_text qm_may qm_least qm_isCarried qm_list qm_nodes qm_kept qm_keptLow qm_keptHigh qm_keptNodes qm_numbers qm_sums qm_commands qm_held m_w m_pastMany m_filled m_length m_may m_least m_isCarried m_list m_listMany m_went m_cost m_cause m_looks m_isSent m_isOld m_keptMany m_commandMany (m_nodes (Int32.toNatClampNeg m_went)) x2 x3 x4 r_6 o_7 o_8 o_9 o_10 o_11 o_12 o_13 hc_14) ⟨callB_of 4 hts (k_good u_941) rfl rfl rfl (hu _ u_51) (hu _ u_938) (by decide +kernel) ⟨Nat.le_of_ble_eq_true rfl, Nat.le_of_ble_eq_true rfl⟩, hu _ u_940, hu _ u_36⟩ rfl rfl rfl (by decide) (by decide) (by decide) rfl rfl rfl rfl hl.1 rfl (Nat.le_of_ble_eq_true rfl) dX6_runLetter_90 (fun H locs hP hD hS => ?_)
              have hP : va_P D vwCl [(qm, .inr (6, [.ref qm_w, .ref qm_past, .int m_pastMany, .ref qm_images, .int m_filled, .ref qm_text, .int m_length, .ref qm_may, .ref qm_least, .ref qm_isCarried, .ref qm_list, .ref qm_nodes, .int o_11, .int m_went, .int m_cost, .int o_12, .int o_13, .int m_isSent, .int m_isOld, .ref qm_kept, .ref qm_keptLow, .ref qm_keptHigh, .int m_keptMany, .ref qm_keptNodes, .ref qm_numbers, .ref qm_sums, .ref qm_commands, .int m_commandMany, .ref qm_held])), (qm_w, .inl (cI, 93, .inl m_w)), (qm_may, .inl (cZ, 18, .inl o_7)), (qm_least, .inl (cI, 9, .inl o_8)), (qm_isCarried, .inl (cZ, 18, .inl o_9)), (qm_list, .inl (cI, 18, .inl o_10)), (qm_nodes, .inl (cI, 41, .inl m_nodes))] H := hP
              have hD : va_D A [(qm, .inr (6, [.ref qm_w, .ref qm_past, .int m_pastMany, .ref qm_images, .int m_filled, .ref qm_text, .int m_length, .ref qm_may, .ref qm_least, .ref qm_isCarried, .ref qm_list, .ref qm_nodes, .int o_11, .int m_went, .int m_cost, .int o_12, .int o_13, .int m_isSent, .int m_isOld, .ref qm_kept, .ref qm_keptLow, .ref qm_keptHigh, .int m_keptMany, .ref qm_keptNodes, .ref qm_numbers, .ref qm_sums, .ref qm_commands, .int m_commandMany, .ref qm_held])), (qm_w, .inl (cI, 93, .inl m_w)), (qm_may, .inl (cZ, 18, .inl o_7)), (qm_least, .inl (cI, 9, .inl o_8)), (qm_isCarried, .inl (cZ, 18, .inl o_9)), (qm_list, .inl (cI, 18, .inl o_10)), (qm_nodes, .inl (cI, 41, .inl m_nodes))] := hD
              refine lv_istore (lv' := [(5, .int r_6), (0, .ref qm), (2, .int x2), (3, .int x3), (4, .int x4)]) hx hb dX6_runLetter_93 hl (by decide) rfl (fun ls hl => ?_)
              refine lv_iload hx hb dX6_runLetter_95 (lv_at hl 0 rfl) ?_
              refine lv_bipush (v := (-9 : Int32)) hx hb dX6_runLetter_97 (by decide) ?_
              refine lv_icmp_eq (tgt := 119) hx hb dX6_runLetter_99 (by decide) (fun cc_15 => ?_) (fun cc_15 => ?_)
              · have h := (if_pos cc_15).symm.trans h
                exact w119 x2 x3 x4 r_6 m_w o_7 o_8 o_9 o_10 m_nodes o_11 m_went m_cost o_12 o_13 _ _ _ hP hD hS (lv_sub hl [1, 2, 3, 4, 0] rfl) h
              · have h := (if_neg cc_15).symm.trans h
                refine lv_aload_n hx hb dX6_runLetter_102 rfl (lv_at hl 1 rfl) ?_
                refine va_get (D := D) (ci := 6) (v := .int m_went) (C := RX6) (T := TX6) (N := 29) hx hb hu k_iX6 hown hK hP 0 rfl rfl 13 (by decide) (hu _ u_731) (fun _ h9 => h9) rfl dX6_runLetter_103 ?_
                refine lv_bipush (v := (40 : Int32)) hx hb dX6_runLetter_106 (by decide) ?_
                refine lv_icmp_ne (tgt := 119) hx hb dX6_runLetter_108 (by decide) (fun cc_16 => ?_) (fun cc_16 => ?_)
                · have h := (if_neg cc_16).symm.trans h
                  exact w119 x2 x3 x4 r_6 m_w o_7 o_8 o_9 o_10 m_nodes o_11 m_went m_cost o_12 o_13 _ _ _ hP hD hS (lv_sub hl [1, 2, 3, 4, 0] rfl) h
                · have h := (if_pos cc_16).symm.trans h
                  refine lv_aload_n hx hb dX6_runLetter_111 rfl (lv_at hl 1 rfl) ?_
                  refine lv_iconst (v := (3 : Int32)) hx hb dX6_runLetter_112 (by decide) ?_
                  refine va_put (D := D) (ci := 6) (v := .int (3 : Int32)) (ty := .int) (C := RX6) (T := TX6) (N := 29) hx hb hu k_iX6 tyX6 tyX6_ok nmX6 hown hK hP hD hS 0 rfl rfl 15 (by decide) (hu _ u_733) (fun _ h9 => h9) rfl (by decide +kernel) rfl rfl (Nat.le_of_ble_eq_true rfl) dX6_runLetter_113 (fun H locs hP hD hS => ?_)
                  have hP : va_P D vwCl [(qm, .inr (6, [.ref qm_w, .ref qm_past, .int m_pastMany, .ref qm_images, .int m_filled, .ref qm_text, .int m_length, .ref qm_may, .ref qm_least, .ref qm_isCarried, .ref qm_list, .ref qm_nodes, .int o_11, .int m_went, .int m_cost, .int (3 : Int32), .int o_13, .int m_isSent, .int m_isOld, .ref qm_kept, .ref qm_keptLow, .ref qm_keptHigh, .int m_keptMany, .ref qm_keptNodes, .ref qm_numbers, .ref qm_sums, .ref qm_commands, .int m_commandMany, .ref qm_held])), (qm_w, .inl (cI, 93, .inl m_w)), (qm_may, .inl (cZ, 18, .inl o_7)), (qm_least, .inl (cI, 9, .inl o_8)), (qm_isCarried, .inl (cZ, 18, .inl o_9)), (qm_list, .inl (cI, 18, .inl o_10)), (qm_nodes, .inl (cI, 41, .inl m_nodes))] H := hP
                  have hD : va_D A [(qm, .inr (6, [.ref qm_w, .ref qm_past, .int m_pastMany, .ref qm_images, .int m_filled, .ref qm_text, .int m_length, .ref qm_may, .ref qm_least, .ref qm_isCarried, .ref qm_list, .ref qm_nodes, .int o_11, .int m_went, .int m_cost, .int (3 : Int32), .int o_13, .int m_isSent, .int m_isOld, .ref qm_kept, .ref qm_keptLow, .ref qm_keptHigh, .int m_keptMany, .ref qm_keptNodes, .ref qm_numbers, .ref qm_sums, .ref qm_commands, .int m_commandMany, .ref qm_held])), (qm_w, .inl (cI, 93, .inl m_w)), (qm_may, .inl (cZ, 18, .inl o_7)), (qm_least, .inl (cI, 9, .inl o_8)), (qm_isCarried, .inl (cZ, 18, .inl o_9)), (qm_list, .inl (cI, 18, .inl o_10)), (qm_nodes, .inl (cI, 41, .inl m_nodes))] := hD
                  refine lv_goto (tgt := 178) hx hb dX6_runLetter_116 (by decide) ?_
                  refine lv_goto (tgt := 56) hx hb dX6_runLetter_178 (by decide) ?_
                  exact ih56 x2 x3 x4 m_w o_7 o_8 o_9 o_10 m_nodes o_11 m_went m_cost (3 : Int32) o_13 _ _ _ hP hD hS (lv_sub hl [1, 2, 3, 4] rfl) h
      refine lv_iload hx hb dX6_runLetter_3 (lv_at hl 5 rfl) ?_
      refine lv_bipush (v := (18 : Int32)) hx hb dX6_runLetter_5 (by decide) ?_
      refine lv_icmp_ge (tgt := 24) hx hb dX6_runLetter_7 (by decide) (fun cc_1 => ?_) (fun cc_1 => ?_)
      · have h := (if_pos cc_1).symm.trans h
        refine lv_aload_n hx hb dX6_runLetter_24 rfl (lv_at hl 0 rfl) ?_
        refine lv_iconst (v := (0 : Int32)) hx hb dX6_runLetter_25 (by decide) ?_
        refine va_put (D := D) (ci := 6) (v := .int (0 : Int32)) (ty := .int) (C := RX6) (T := TX6) (N := 29) hx hb hu k_iX6 tyX6 tyX6_ok nmX6 hown hK hP hD hS 0 rfl rfl 12 (by decide) (hu _ u_730) (fun _ h9 => h9) rfl (by decide +kernel) rfl rfl (Nat.le_of_ble_eq_true rfl) dX6_runLetter_26 (fun H locs hP hD hS => ?_)
        have hP : va_P D vwCl [(qm, .inr (6, [.ref qm_w, .ref qm_past, .int m_pastMany, .ref qm_images, .int m_filled, .ref qm_text, .int m_length, .ref qm_may, .ref qm_least, .ref qm_isCarried, .ref qm_list, .ref qm_nodes, .int (0 : Int32), .int m_went, .int m_cost, .int m_cause, .int m_looks, .int m_isSent, .int m_isOld, .ref qm_kept, .ref qm_keptLow, .ref qm_keptHigh, .int m_keptMany, .ref qm_keptNodes, .ref qm_numbers, .ref qm_sums, .ref qm_commands, .int m_commandMany, .ref qm_held])), (qm_w, .inl (cI, 93, .inl m_w)), (qm_may, .inl (cZ, 18, .inl m_may)), (qm_least, .inl (cI, 9, .inl m_least)), (qm_isCarried, .inl (cZ, 18, .inl m_isCarried)), (qm_list, .inl (cI, 18, .inl m_list)), (qm_nodes, .inl (cI, 41, .inl m_nodes))] H := hP
        have hD : va_D A [(qm, .inr (6, [.ref qm_w, .ref qm_past, .int m_pastMany, .ref qm_images, .int m_filled, .ref qm_text, .int m_length, .ref qm_may, .ref qm_least, .ref qm_isCarried, .ref qm_list, .ref qm_nodes, .int (0 : Int32), .int m_went, .int m_cost, .int m_cause, .int m_looks, .int m_isSent, .int m_isOld, .ref qm_kept, .ref qm_keptLow, .ref qm_keptHigh, .int m_keptMany, .ref qm_keptNodes, .ref qm_numbers, .ref qm_sums, .ref qm_commands, .int m_commandMany, .ref qm_held])), (qm_w, .inl (cI, 93, .inl m_w)), (qm_may, .inl (cZ, 18, .inl m_may)), (qm_least, .inl (cI, 9, .inl m_least)), (qm_isCarried, .inl (cZ, 18, .inl m_isCarried)), (qm_list, .inl (cI, 18, .inl m_list)), (qm_nodes, .inl (cI, 41, .inl m_nodes))] := hD
        refine lv_aload_n hx hb dX6_runLetter_29 rfl (lv_at hl 0 rfl) ?_
        refine lv_iconst (v := (0 : Int32)) hx hb dX6_runLetter_30 (by decide) ?_
        refine va_put (D := D) (ci := 6) (v := .int (0 : Int32)) (ty := .int) (C := RX6) (T := TX6) (N := 29) hx hb hu k_iX6 tyX6 tyX6_ok nmX6 hown hK hP hD hS 0 rfl rfl 13 (by decide) (hu _ u_731) (fun _ h9 => h9) rfl (by decide +kernel) rfl rfl (Nat.le_of_ble_eq_true rfl) dX6_runLetter_31 (fun H locs hP hD hS => ?_)
        have hP : va_P D vwCl [(qm, .inr (6, [.ref qm_w, .ref qm_past, .int m_pastMany, .ref qm_images, .int m_filled, .ref qm_text, .int m_length, .ref qm_may, .ref qm_least, .ref qm_isCarried, .ref qm_list, .ref qm_nodes, .int (0 : Int32), .int (0 : Int32), .int m_cost, .int m_cause, .int m_looks, .int m_isSent, .int m_isOld, .ref qm_kept, .ref qm_keptLow, .ref qm_keptHigh, .int m_keptMany, .ref qm_keptNodes, .ref qm_numbers, .ref qm_sums, .ref qm_commands, .int m_commandMany, .ref qm_held])), (qm_w, .inl (cI, 93, .inl m_w)), (qm_may, .inl (cZ, 18, .inl m_may)), (qm_least, .inl (cI, 9, .inl m_least)), (qm_isCarried, .inl (cZ, 18, .inl m_isCarried)), (qm_list, .inl (cI, 18, .inl m_list)), (qm_nodes, .inl (cI, 41, .inl m_nodes))] H := hP
        have hD : va_D A [(qm, .inr (6, [.ref qm_w, .ref qm_past, .int m_pastMany, .ref qm_images, .int m_filled, .ref qm_text, .int m_length, .ref qm_may, .ref qm_least, .ref qm_isCarried, .ref qm_list, .ref qm_nodes, .int (0 : Int32), .int (0 : Int32), .int m_cost, .int m_cause, .int m_looks, .int m_isSent, .int m_isOld, .ref qm_kept, .ref qm_keptLow, .ref qm_keptHigh, .int m_keptMany, .ref qm_keptNodes, .ref qm_numbers, .ref qm_sums, .ref qm_commands, .int m_commandMany, .ref qm_held])), (qm_w, .inl (cI, 93, .inl m_w)), (qm_may, .inl (cZ, 18, .inl m_may)), (qm_least, .inl (cI, 9, .inl m_least)), (qm_isCarried, .inl (cZ, 18, .inl m_isCarried)), (qm_list, .inl (cI, 18, .inl m_list)), (qm_nodes, .inl (cI, 41, .inl m_nodes))] := hD
        refine lv_aload_n hx hb dX6_runLetter_34 rfl (lv_at hl 0 rfl) ?_
        refine lv_iconst (v := (0 : Int32)) hx hb dX6_runLetter_35 (by decide) ?_
        refine va_put (D := D) (ci := 6) (v := .int (0 : Int32)) (ty := .int) (C := RX6) (T := TX6) (N := 29) hx hb hu k_iX6 tyX6 tyX6_ok nmX6 hown hK hP hD hS 0 rfl rfl 14 (by decide) (hu _ u_732) (fun _ h9 => h9) rfl (by decide +kernel) rfl rfl (Nat.le_of_ble_eq_true rfl) dX6_runLetter_36 (fun H locs hP hD hS => ?_)
        have hP : va_P D vwCl [(qm, .inr (6, [.ref qm_w, .ref qm_past, .int m_pastMany, .ref qm_images, .int m_filled, .ref qm_text, .int m_length, .ref qm_may, .ref qm_least, .ref qm_isCarried, .ref qm_list, .ref qm_nodes, .int (0 : Int32), .int (0 : Int32), .int (0 : Int32), .int m_cause, .int m_looks, .int m_isSent, .int m_isOld, .ref qm_kept, .ref qm_keptLow, .ref qm_keptHigh, .int m_keptMany, .ref qm_keptNodes, .ref qm_numbers, .ref qm_sums, .ref qm_commands, .int m_commandMany, .ref qm_held])), (qm_w, .inl (cI, 93, .inl m_w)), (qm_may, .inl (cZ, 18, .inl m_may)), (qm_least, .inl (cI, 9, .inl m_least)), (qm_isCarried, .inl (cZ, 18, .inl m_isCarried)), (qm_list, .inl (cI, 18, .inl m_list)), (qm_nodes, .inl (cI, 41, .inl m_nodes))] H := hP
        have hD : va_D A [(qm, .inr (6, [.ref qm_w, .ref qm_past, .int m_pastMany, .ref qm_images, .int m_filled, .ref qm_text, .int m_length, .ref qm_may, .ref qm_least, .ref qm_isCarried, .ref qm_list, .ref qm_nodes, .int (0 : Int32), .int (0 : Int32), .int (0 : Int32), .int m_cause, .int m_looks, .int m_isSent, .int m_isOld, .ref qm_kept, .ref qm_keptLow, .ref qm_keptHigh, .int m_keptMany, .ref qm_keptNodes, .ref qm_numbers, .ref qm_sums, .ref qm_commands, .int m_commandMany, .ref qm_held])), (qm_w, .inl (cI, 93, .inl m_w)), (qm_may, .inl (cZ, 18, .inl m_may)), (qm_least, .inl (cI, 9, .inl m_least)), (qm_isCarried, .inl (cZ, 18, .inl m_isCarried)), (qm_list, .inl (cI, 18, .inl m_list)), (qm_nodes, .inl (cI, 41, .inl m_nodes))] := hD
        refine lv_aload_n hx hb dX6_runLetter_39 rfl (lv_at hl 0 rfl) ?_
        refine lv_iconst (v := (0 : Int32)) hx hb dX6_runLetter_40 (by decide) ?_
        refine va_put (D := D) (ci := 6) (v := .int (0 : Int32)) (ty := .int) (C := RX6) (T := TX6) (N := 29) hx hb hu k_iX6 tyX6 tyX6_ok nmX6 hown hK hP hD hS 0 rfl rfl 15 (by decide) (hu _ u_733) (fun _ h9 => h9) rfl (by decide +kernel) rfl rfl (Nat.le_of_ble_eq_true rfl) dX6_runLetter_41 (fun H locs hP hD hS => ?_)
        have hP : va_P D vwCl [(qm, .inr (6, [.ref qm_w, .ref qm_past, .int m_pastMany, .ref qm_images, .int m_filled, .ref qm_text, .int m_length, .ref qm_may, .ref qm_least, .ref qm_isCarried, .ref qm_list, .ref qm_nodes, .int (0 : Int32), .int (0 : Int32), .int (0 : Int32), .int (0 : Int32), .int m_looks, .int m_isSent, .int m_isOld, .ref qm_kept, .ref qm_keptLow, .ref qm_keptHigh, .int m_keptMany, .ref qm_keptNodes, .ref qm_numbers, .ref qm_sums, .ref qm_commands, .int m_commandMany, .ref qm_held])), (qm_w, .inl (cI, 93, .inl m_w)), (qm_may, .inl (cZ, 18, .inl m_may)), (qm_least, .inl (cI, 9, .inl m_least)), (qm_isCarried, .inl (cZ, 18, .inl m_isCarried)), (qm_list, .inl (cI, 18, .inl m_list)), (qm_nodes, .inl (cI, 41, .inl m_nodes))] H := hP
        have hD : va_D A [(qm, .inr (6, [.ref qm_w, .ref qm_past, .int m_pastMany, .ref qm_images, .int m_filled, .ref qm_text, .int m_length, .ref qm_may, .ref qm_least, .ref qm_isCarried, .ref qm_list, .ref qm_nodes, .int (0 : Int32), .int (0 : Int32), .int (0 : Int32), .int (0 : Int32), .int m_looks, .int m_isSent, .int m_isOld, .ref qm_kept, .ref qm_keptLow, .ref qm_keptHigh, .int m_keptMany, .ref qm_keptNodes, .ref qm_numbers, .ref qm_sums, .ref qm_commands, .int m_commandMany, .ref qm_held])), (qm_w, .inl (cI, 93, .inl m_w)), (qm_may, .inl (cZ, 18, .inl m_may)), (qm_least, .inl (cI, 9, .inl m_least)), (qm_isCarried, .inl (cZ, 18, .inl m_isCarried)), (qm_list, .inl (cI, 18, .inl m_list)), (qm_nodes, .inl (cI, 41, .inl m_nodes))] := hD
        refine lv_aload_n hx hb dX6_runLetter_44 rfl (lv_at hl 0 rfl) ?_
        refine lv_iconst (v := (0 : Int32)) hx hb dX6_runLetter_45 (by decide) ?_
        refine va_put (D := D) (ci := 6) (v := .int (0 : Int32)) (ty := .int) (C := RX6) (T := TX6) (N := 29) hx hb hu k_iX6 tyX6 tyX6_ok nmX6 hown hK hP hD hS 0 rfl rfl 16 (by decide) (hu _ u_734) (fun _ h9 => h9) rfl (by decide +kernel) rfl rfl (Nat.le_of_ble_eq_true rfl) dX6_runLetter_46 (fun H locs hP hD hS => ?_)
        have hP : va_P D vwCl [(qm, .inr (6, [.ref qm_w, .ref qm_past, .int m_pastMany, .ref qm_images, .int m_filled, .ref qm_text, .int m_length, .ref qm_may, .ref qm_least, .ref qm_isCarried, .ref qm_list, .ref qm_nodes, .int (0 : Int32), .int (0 : Int32), .int (0 : Int32), .int (0 : Int32), .int (0 : Int32), .int m_isSent, .int m_isOld, .ref qm_kept, .ref qm_keptLow, .ref qm_keptHigh, .int m_keptMany, .ref qm_keptNodes, .ref qm_numbers, .ref qm_sums, .ref qm_commands, .int m_commandMany, .ref qm_held])), (qm_w, .inl (cI, 93, .inl m_w)), (qm_may, .inl (cZ, 18, .inl m_may)), (qm_least, .inl (cI, 9, .inl m_least)), (qm_isCarried, .inl (cZ, 18, .inl m_isCarried)), (qm_list, .inl (cI, 18, .inl m_list)), (qm_nodes, .inl (cI, 41, .inl m_nodes))] H := hP
        have hD : va_D A [(qm, .inr (6, [.ref qm_w, .ref qm_past, .int m_pastMany, .ref qm_images, .int m_filled, .ref qm_text, .int m_length, .ref qm_may, .ref qm_least, .ref qm_isCarried, .ref qm_list, .ref qm_nodes, .int (0 : Int32), .int (0 : Int32), .int (0 : Int32), .int (0 : Int32), .int (0 : Int32), .int m_isSent, .int m_isOld, .ref qm_kept, .ref qm_keptLow, .ref qm_keptHigh, .int m_keptMany, .ref qm_keptNodes, .ref qm_numbers, .ref qm_sums, .ref qm_commands, .int m_commandMany, .ref qm_held])), (qm_w, .inl (cI, 93, .inl m_w)), (qm_may, .inl (cZ, 18, .inl m_may)), (qm_least, .inl (cI, 9, .inl m_least)), (qm_isCarried, .inl (cZ, 18, .inl m_isCarried)), (qm_list, .inl (cI, 18, .inl m_list)), (qm_nodes, .inl (cI, 41, .inl m_nodes))] := hD
        refine lv_aload_n hx hb dX6_runLetter_49 rfl (lv_at hl 0 rfl) ?_
        refine va_get (D := D) (ci := 6) (v := .ref qm_nodes) (C := RX6) (T := TX6) (N := 29) hx hb hu k_iX6 hown hK hP 0 rfl rfl 11 (by decide) (hu _ u_729) (fun _ h9 => h9) rfl dX6_runLetter_50 ?_
        refine lv_iconst (v := (0 : Int32)) hx hb dX6_runLetter_53 (by decide) ?_
        refine lv_iload_n hx hb dX6_runLetter_54 rfl (lv_at hl 1 rfl) ?_
        refine va_iast (D := D) hx hb hK hP hD hS 6 0 rfl rfl (inb_in (by decide)) dX6_runLetter_55 (fun H locs hP hD hS => ?_)
        have hP : va_P D vwCl [(qm, .inr (6, [.ref qm_w, .ref qm_past, .int m_pastMany, .ref qm_images, .int m_filled, .ref qm_text, .int m_length, .ref qm_may, .ref qm_least, .ref qm_isCarried, .ref qm_list, .ref qm_nodes, .int (0 : Int32), .int (0 : Int32), .int (0 : Int32), .int (0 : Int32), .int (0 : Int32), .int m_isSent, .int m_isOld, .ref qm_kept, .ref qm_keptLow, .ref qm_keptHigh, .int m_keptMany, .ref qm_keptNodes, .ref qm_numbers, .ref qm_sums, .ref qm_commands, .int m_commandMany, .ref qm_held])), (qm_w, .inl (cI, 93, .inl m_w)), (qm_may, .inl (cZ, 18, .inl m_may)), (qm_least, .inl (cI, 9, .inl m_least)), (qm_isCarried, .inl (cZ, 18, .inl m_isCarried)), (qm_list, .inl (cI, 18, .inl m_list)), (qm_nodes, .inl (cI, 41, .inl (upd m_nodes (Int32.toNatClampNeg (0 : Int32)) x1)))] H := hP
        have hD : va_D A [(qm, .inr (6, [.ref qm_w, .ref qm_past, .int m_pastMany, .ref qm_images, .int m_filled, .ref qm_text, .int m_length, .ref qm_may, .ref qm_least, .ref qm_isCarried, .ref qm_list, .ref qm_nodes, .int (0 : Int32), .int (0 : Int32), .int (0 : Int32), .int (0 : Int32), .int (0 : Int32), .int m_isSent, .int m_isOld, .ref qm_kept, .ref qm_keptLow, .ref qm_keptHigh, .int m_keptMany, .ref qm_keptNodes, .ref qm_numbers, .ref qm_sums, .ref qm_commands, .int m_commandMany, .ref qm_held])), (qm_w, .inl (cI, 93, .inl m_w)), (qm_may, .inl (cZ, 18, .inl m_may)), (qm_least, .inl (cI, 9, .inl m_least)), (qm_isCarried, .inl (cZ, 18, .inl m_isCarried)), (qm_list, .inl (cI, 18, .inl m_list)), (qm_nodes, .inl (cI, 41, .inl (upd m_nodes (Int32.toNatClampNeg (0 : Int32)) x1)))] := hD
        exact w56 1000 x2 x3 x4 m_w m_may m_least m_isCarried m_list (upd m_nodes (Int32.toNatClampNeg (0 : Int32)) x1) (0 : Int32) (0 : Int32) (0 : Int32) (0 : Int32) (0 : Int32) _ _ _ hP hD hS (lv_sub hl [0, 2, 3, 4] rfl) h
      · have h := (if_neg cc_1).symm.trans h
        refine lv_aload_n hx hb dX6_runLetter_10 rfl (lv_at hl 0 rfl) ?_
        refine va_get (D := D) (ci := 6) (v := .ref qm_isCarried) (C := RX6) (T := TX6) (N := 29) hx hb hu k_iX6 hown hK hP 0 rfl rfl 9 (by decide) (hu _ u_727) (fun _ h9 => h9) rfl dX6_runLetter_11 ?_
        refine lv_iload hx hb dX6_runLetter_14 (lv_at hl 5 rfl) ?_
        refine lv_iconst (v := (0 : Int32)) hx hb dX6_runLetter_16 (by decide) ?_
        obtain ⟨hin_2, h⟩ := ob_if h
        have hin_2 := inb_in hin_2
        refine va_zast (D := D) hx hb hK hP hD hS 4 1 rfl rfl hin_2 dX6_runLetter_17 (fun H locs hP hD hS => ?_)
        have hP : va_P D vwCl [(qm, .inr (6, [.ref qm_w, .ref qm_past, .int m_pastMany, .ref qm_images, .int m_filled, .ref qm_text, .int m_length, .ref qm_may, .ref qm_least, .ref qm_isCarried, .ref qm_list, .ref qm_nodes, .int m_listMany, .int m_went, .int m_cost, .int m_cause, .int m_looks, .int m_isSent, .int m_isOld, .ref qm_kept, .ref qm_keptLow, .ref qm_keptHigh, .int m_keptMany, .ref qm_keptNodes, .ref qm_numbers, .ref qm_sums, .ref qm_commands, .int m_commandMany, .ref qm_held])), (qm_w, .inl (cI, 93, .inl m_w)), (qm_may, .inl (cZ, 18, .inl m_may)), (qm_least, .inl (cI, 9, .inl m_least)), (qm_isCarried, .inl (cZ, 18, .inl (upd m_isCarried (Int32.toNatClampNeg x5) (0 : Int32)))), (qm_list, .inl (cI, 18, .inl m_list)), (qm_nodes, .inl (cI, 41, .inl m_nodes))] H := hP
        have hD : va_D A [(qm, .inr (6, [.ref qm_w, .ref qm_past, .int m_pastMany, .ref qm_images, .int m_filled, .ref qm_text, .int m_length, .ref qm_may, .ref qm_least, .ref qm_isCarried, .ref qm_list, .ref qm_nodes, .int m_listMany, .int m_went, .int m_cost, .int m_cause, .int m_looks, .int m_isSent, .int m_isOld, .ref qm_kept, .ref qm_keptLow, .ref qm_keptHigh, .int m_keptMany, .ref qm_keptNodes, .ref qm_numbers, .ref qm_sums, .ref qm_commands, .int m_commandMany, .ref qm_held])), (qm_w, .inl (cI, 93, .inl m_w)), (qm_may, .inl (cZ, 18, .inl m_may)), (qm_least, .inl (cI, 9, .inl m_least)), (qm_isCarried, .inl (cZ, 18, .inl (upd m_isCarried (Int32.toNatClampNeg x5) (0 : Int32)))), (qm_list, .inl (cI, 18, .inl m_list)), (qm_nodes, .inl (cI, 41, .inl m_nodes))] := hD
        refine lv_iinc (v := (x5 + (1 : Int32))) (lv' := [(5, .int (x5 + (1 : Int32))), (0, .ref qm), (1, .int x1), (2, .int x2), (3, .int x3), (4, .int x4)]) hx hb dX6_runLetter_18 hl (k := 5) rfl rfl (by decide) rfl (fun ls hl => ?_)
        refine lv_goto (tgt := 3) hx hb dX6_runLetter_21 (by decide) ?_
        exact ih3 x1 x2 x3 x4 (x5 + (1 : Int32)) m_w m_may m_least (upd m_isCarried (Int32.toNatClampNeg x5) (0 : Int32)) m_list m_nodes m_listMany m_went m_cost m_cause m_looks _ _ _ hP hD hS (lv_sub hl [1, 2, 3, 4, 5, 0] rfl) h
  refine lv_iconst (v := (0 : Int32)) hx hb dX6_runLetter_0 (by decide) ?_
  refine lv_istore (lv' := [(5, .int (0 : Int32)), (0, .ref qm), (1, .int p1), (2, .int p2), (3, .int p3), (4, .int p4)]) hx hb dX6_runLetter_1 hl (by decide) rfl (fun ls hl => ?_)
  exact w3 1000 p1 p2 p3 p4 (0 : Int32) m_w m_may m_least m_isCarried m_list m_nodes m_listMany m_went m_cost m_cause m_looks _ _ _ hP hD hS (lv_sub hl [1, 2, 3, 4, 5, 0] rfl) h
def f_X6_send_b140  : Nat → Int32 → (Nat → Int32) → (Nat → Int32) → (Nat → Int32) → (Nat → Int32) → (Nat → Int32) → (Nat → Int32) → Int32 → Int32 → Int32 → Int32 → Int32 → Int32 → Int32 → (Nat → Int32) → (Nat → Int32) → (Nat → Int32) → Int32 → (Nat → Int32) → (Nat → Int32) → Option (Int32 × (Nat → Int32) × (Nat → Int32) × (Nat → Int32) × (Nat → Int32) × (Nat → Int32) × Int32 × Int32 × Int32 × Int32 × Int32 × Int32 × Int32 × (Nat → Int32) × (Nat → Int32) × (Nat → Int32) × Int32 × (Nat → Int32) × (Nat → Int32))
  | 0, _, _, _, _, _, _, _, _, _, _, _, _, _, _, _, _, _, _, _, _ => none
  | n + 1, x4, m_w, m_may, m_least, m_isCarried, m_list, m_nodes, m_listMany, m_went, m_cost, m_cause, m_looks, m_isSent, m_isOld, m_kept, m_keptLow, m_keptHigh, m_keptMany, m_keptNodes, m_numbers =>
    if m_went < x4 then
      if inb m_went 41 = true then
      if m_cause = (0 : Int32) then
        some (m_went, m_may, m_least, m_isCarried, m_list, m_nodes, m_listMany, m_went, m_cost, m_cause, m_looks, m_isSent, m_isOld, m_kept, m_keptLow, m_keptHigh, m_keptMany, m_keptNodes, (upd (upd (upd (upd (upd (upd m_numbers (Int32.toNatClampNeg (0 : Int32)) m_went) (Int32.toNatClampNeg (1 : Int32)) m_cost) (Int32.toNatClampNeg (2 : Int32)) m_listMany) (Int32.toNatClampNeg (3 : Int32)) m_cause) (Int32.toNatClampNeg (4 : Int32)) (m_nodes (Int32.toNatClampNeg m_went))) (Int32.toNatClampNeg (5 : Int32)) m_looks))
      else
        some (((-10 : Int32) - m_cause), m_may, m_least, m_isCarried, m_list, m_nodes, m_listMany, m_went, m_cost, m_cause, m_looks, m_isSent, m_isOld, m_kept, m_keptLow, m_keptHigh, m_keptMany, m_keptNodes, (upd (upd (upd (upd (upd (upd m_numbers (Int32.toNatClampNeg (0 : Int32)) m_went) (Int32.toNatClampNeg (1 : Int32)) m_cost) (Int32.toNatClampNeg (2 : Int32)) m_listMany) (Int32.toNatClampNeg (3 : Int32)) m_cause) (Int32.toNatClampNeg (4 : Int32)) (m_nodes (Int32.toNatClampNeg m_went))) (Int32.toNatClampNeg (5 : Int32)) m_looks))
      else none
    else
      if inb x4 41 = true then
      (f_X6_send_b140 n) (x4 + (1 : Int32)) m_w m_may m_least m_isCarried m_list m_nodes m_listMany m_went m_cost m_cause m_looks m_isSent m_isOld m_kept m_keptLow m_keptHigh m_keptMany (upd m_keptNodes (Int32.toNatClampNeg x4) (m_nodes (Int32.toNatClampNeg x4))) m_numbers
      else none
def f_X6_send_b70  : Nat → Int32 → (Nat → Int32) → (Nat → Int32) → (Nat → Int32) → (Nat → Int32) → (Nat → Int32) → (Nat → Int32) → Int32 → Int32 → Int32 → Int32 → Int32 → Int32 → Int32 → (Nat → Int32) → (Nat → Int32) → (Nat → Int32) → Int32 → (Nat → Int32) → (Nat → Int32) → Option (Int32 × (Nat → Int32) × (Nat → Int32) × (Nat → Int32) × (Nat → Int32) × (Nat → Int32) × Int32 × Int32 × Int32 × Int32 × Int32 × Int32 × Int32 × (Nat → Int32) × (Nat → Int32) × (Nat → Int32) × Int32 × (Nat → Int32) × (Nat → Int32))
  | 0, _, _, _, _, _, _, _, _, _, _, _, _, _, _, _, _, _, _, _, _ => none
  | n + 1, x4, m_w, m_may, m_least, m_isCarried, m_list, m_nodes, m_listMany, m_went, m_cost, m_cause, m_looks, m_isSent, m_isOld, m_kept, m_keptLow, m_keptHigh, m_keptMany, m_keptNodes, m_numbers =>
    if m_listMany ≤ x4 then
      f_X6_send_b140 1000 (0 : Int32) m_w m_may m_least m_isCarried m_list m_nodes m_listMany m_went m_cost m_cause m_looks m_isSent m_isOld m_kept m_keptLow m_keptHigh m_keptMany m_keptNodes m_numbers
    else
      if inb x4 18 = true then
      (f_X6_of (m_list (Int32.toNatClampNeg x4)) (0 : Int32) m_w).bind fun r_22 =>
      (f_X6_of (m_list (Int32.toNatClampNeg x4)) (1 : Int32) m_w).bind fun r_24 =>
      (f_X6_send_b70 n) (x4 + (1 : Int32)) m_w m_may m_least m_isCarried m_list m_nodes m_listMany m_went m_cost m_cause m_looks m_isSent m_isOld (upd m_kept (Int32.toNatClampNeg x4) (m_list (Int32.toNatClampNeg x4))) (upd m_keptLow (Int32.toNatClampNeg x4) r_22) (upd m_keptHigh (Int32.toNatClampNeg x4) r_24) m_keptMany m_keptNodes m_numbers
      else none
def f_X6_send_b40  (s0 : Int32) (s1 : Int32) (s2 : Int32) (m_w : (Nat → Int32)) (m_may : (Nat → Int32)) (m_least : (Nat → Int32)) (m_isCarried : (Nat → Int32)) (m_list : (Nat → Int32)) (m_nodes : (Nat → Int32)) (m_listMany : Int32) (m_went : Int32) (m_cost : Int32) (m_cause : Int32) (m_looks : Int32) (m_isSent : Int32) (m_isOld : Int32) (m_kept : (Nat → Int32)) (m_keptLow : (Nat → Int32)) (m_keptHigh : (Nat → Int32)) (m_keptMany : Int32) (m_keptNodes : (Nat → Int32)) (m_numbers : (Nat → Int32)) : Option (Int32 × (Nat → Int32) × (Nat → Int32) × (Nat → Int32) × (Nat → Int32) × (Nat → Int32) × Int32 × Int32 × Int32 × Int32 × Int32 × Int32 × Int32 × (Nat → Int32) × (Nat → Int32) × (Nat → Int32) × Int32 × (Nat → Int32) × (Nat → Int32)) :=
  (f_X6_runLetter s2 s1 s0 (m_w (Int32.toNatClampNeg (2 : Int32))) m_w m_may m_least m_isCarried m_list m_nodes m_listMany m_went m_cost m_cause m_looks).bind fun ⟨o_9, o_10, o_11, o_12, o_13, o_14, o_15, o_16, o_17, o_18⟩ =>
  f_X6_send_b70 1000 (0 : Int32) m_w o_9 o_10 o_11 o_12 o_13 o_14 o_15 o_16 o_17 o_18 (1 : Int32) (0 : Int32) m_kept m_keptLow m_keptHigh o_14 m_keptNodes m_numbers
def f_X6_send (p1 : Int32) (p2 : Int32) (p3 : Int32) (m_w : (Nat → Int32)) (m_may : (Nat → Int32)) (m_least : (Nat → Int32)) (m_isCarried : (Nat → Int32)) (m_list : (Nat → Int32)) (m_nodes : (Nat → Int32)) (m_listMany : Int32) (m_went : Int32) (m_cost : Int32) (m_cause : Int32) (m_looks : Int32) (m_isSent : Int32) (m_isOld : Int32) (m_kept : (Nat → Int32)) (m_keptLow : (Nat → Int32)) (m_keptHigh : (Nat → Int32)) (m_keptMany : Int32) (m_keptNodes : (Nat → Int32)) (m_numbers : (Nat → Int32)) : Option (Int32 × (Nat → Int32) × (Nat → Int32) × (Nat → Int32) × (Nat → Int32) × (Nat → Int32) × Int32 × Int32 × Int32 × Int32 × Int32 × Int32 × Int32 × (Nat → Int32) × (Nat → Int32) × (Nat → Int32) × Int32 × (Nat → Int32) × (Nat → Int32)) :=
  (f_X6_isNode p1 m_w).bind fun r_1 =>
  if r_1 = (0 : Int32) then
    some ((-1 : Int32), m_may, m_least, m_isCarried, m_list, m_nodes, m_listMany, m_went, m_cost, m_cause, m_looks, m_isSent, m_isOld, m_kept, m_keptLow, m_keptHigh, m_keptMany, m_keptNodes, m_numbers)
  else
    (f_X6_isNode p2 m_w).bind fun r_4 =>
    if r_4 = (0 : Int32) then
      some ((-1 : Int32), m_may, m_least, m_isCarried, m_list, m_nodes, m_listMany, m_went, m_cost, m_cause, m_looks, m_isSent, m_isOld, m_kept, m_keptLow, m_keptHigh, m_keptMany, m_keptNodes, m_numbers)
    else
      if (f_X6_isIn p3 (0 : Int32) (1 : Int32)) = (0 : Int32) then
        some ((-1 : Int32), m_may, m_least, m_isCarried, m_list, m_nodes, m_listMany, m_went, m_cost, m_cause, m_looks, m_isSent, m_isOld, m_kept, m_keptLow, m_keptHigh, m_keptMany, m_keptNodes, m_numbers)
      else
        if p3 = (1 : Int32) then
          f_X6_send_b40  (1 : Int32) p2 p1 m_w m_may m_least m_isCarried m_list m_nodes m_listMany m_went m_cost m_cause m_looks m_isSent m_isOld m_kept m_keptLow m_keptHigh m_keptMany m_keptNodes m_numbers
        else
          f_X6_send_b40  (0 : Int32) p2 p1 m_w m_may m_least m_isCarried m_list m_nodes m_listMany m_went m_cost m_cause m_looks m_isSent m_isOld m_kept m_keptLow m_keptHigh m_keptMany m_keptNodes m_numbers
set_option maxHeartbeats 4000000 in
set_option maxRecDepth 100000 in
theorem c_X6_send (l : Launch) (D : va_G) (cI cZ cN : ClassId) (aK aV : Nat → Nat)  (qm : Nat) (qm_w : Nat) (qm_past : Nat) (qm_images : Nat) (qm_text : Nat) (qm_may : Nat) (qm_least : Nat) (qm_isCarried : Nat) (qm_list : Nat) (qm_nodes : Nat) (qm_kept : Nat) (qm_keptLow : Nat) (qm_keptHigh : Nat) (qm_keptNodes : Nat) (qm_numbers : Nat) (qm_sums : Nat) (qm_commands : Nat) (qm_held : Nat) (m_w : (Nat → Int32)) (m_pastMany : Int32) (m_filled : Int32) (m_length : Int32) (m_may : (Nat → Int32)) (m_least : (Nat → Int32)) (m_isCarried : (Nat → Int32)) (m_list : (Nat → Int32)) (m_nodes : (Nat → Int32)) (m_listMany : Int32) (m_went : Int32) (m_cost : Int32) (m_cause : Int32) (m_looks : Int32) (m_isSent : Int32) (m_isOld : Int32) (m_kept : (Nat → Int32)) (m_keptLow : (Nat → Int32)) (m_keptHigh : (Nat → Int32)) (m_keptMany : Int32) (m_keptNodes : (Nat → Int32)) (m_numbers : (Nat → Int32)) (m_commandMany : Int32) (p1 p2 p3 : Int32) (r : Int32) (z_m_may : (Nat → Int32)) (z_m_least : (Nat → Int32)) (z_m_isCarried : (Nat → Int32)) (z_m_list : (Nat → Int32)) (z_m_nodes : (Nat → Int32)) (z_m_listMany : Int32) (z_m_went : Int32) (z_m_cost : Int32) (z_m_cause : Int32) (z_m_looks : Int32) (z_m_isSent : Int32) (z_m_isOld : Int32) (z_m_kept : (Nat → Int32)) (z_m_keptLow : (Nat → Int32)) (z_m_keptHigh : (Nat → Int32)) (z_m_keptMany : Int32) (z_m_keptNodes : (Nat → Int32)) (z_m_numbers : (Nat → Int32)) (h : f_X6_send p1 p2 p3 m_w m_may m_least m_isCarried m_list m_nodes m_listMany m_went m_cost m_cause m_looks m_isSent m_isOld m_kept m_keptLow m_keptHigh m_keptMany m_keptNodes m_numbers = some (r, z_m_may, z_m_least, z_m_isCarried, z_m_list, z_m_nodes, z_m_listMany, z_m_went, z_m_cost, z_m_cause, z_m_looks, z_m_isSent, z_m_isOld, z_m_kept, z_m_keptLow, z_m_keptHigh, z_m_keptMany, z_m_keptNodes, z_m_numbers)) : CtI l D cI cZ cN aK aV yX6_send (k_W yX6_send cX6_send 5 (some .int)) { frames := 5, cells := 0, slots := 0, locals := 119 } [.ref qm, .int p1, .int p2, .int p3] [(qm, .inr (6, [.ref qm_w, .ref qm_past, .int m_pastMany, .ref qm_images, .int m_filled, .ref qm_text, .int m_length, .ref qm_may, .ref qm_least, .ref qm_isCarried, .ref qm_list, .ref qm_nodes, .int m_listMany, .int m_went, .int m_cost, .int m_cause, .int m_looks, .int m_isSent, .int m_isOld, .ref qm_kept, .ref qm_keptLow, .ref qm_keptHigh, .int m_keptMany, .ref qm_keptNodes, .ref qm_numbers, .ref qm_sums, .ref qm_commands, .int m_commandMany, .ref qm_held])), (qm_w, .inl (cI, 93, .inl m_w)), (qm_may, .inl (cZ, 18, .inl m_may)), (qm_least, .inl (cI, 9, .inl m_least)), (qm_isCarried, .inl (cZ, 18, .inl m_isCarried)), (qm_list, .inl (cI, 18, .inl m_list)), (qm_nodes, .inl (cI, 41, .inl m_nodes)), (qm_kept, .inl (cI, 18, .inl m_kept)), (qm_keptLow, .inl (cI, 18, .inl m_keptLow)), (qm_keptHigh, .inl (cI, 18, .inl m_keptHigh)), (qm_keptNodes, .inl (cI, 41, .inl m_keptNodes)), (qm_numbers, .inl (cI, 6, .inl m_numbers))] r [(qm, .inr (6, [.ref qm_w, .ref qm_past, .int m_pastMany, .ref qm_images, .int m_filled, .ref qm_text, .int m_length, .ref qm_may, .ref qm_least, .ref qm_isCarried, .ref qm_list, .ref qm_nodes, .int z_m_listMany, .int z_m_went, .int z_m_cost, .int z_m_cause, .int z_m_looks, .int z_m_isSent, .int z_m_isOld, .ref qm_kept, .ref qm_keptLow, .ref qm_keptHigh, .int z_m_keptMany, .ref qm_keptNodes, .ref qm_numbers, .ref qm_sums, .ref qm_commands, .int m_commandMany, .ref qm_held])), (qm_w, .inl (cI, 93, .inl m_w)), (qm_may, .inl (cZ, 18, .inl z_m_may)), (qm_least, .inl (cI, 9, .inl z_m_least)), (qm_isCarried, .inl (cZ, 18, .inl z_m_isCarried)), (qm_list, .inl (cI, 18, .inl z_m_list)), (qm_nodes, .inl (cI, 41, .inl z_m_nodes)), (qm_kept, .inl (cI, 18, .inl z_m_kept)), (qm_keptLow, .inl (cI, 18, .inl z_m_keptLow)), (qm_keptHigh, .inl (cI, 18, .inl z_m_keptHigh)), (qm_keptNodes, .inl (cI, 41, .inl z_m_keptNodes)), (qm_numbers, .inl (cI, 6, .inl z_m_numbers))] := by
  refine k_startI (by decide) (Nat.le_of_ble_eq_true rfl) ?_
  intro p e s m below meth c A ls hx hb hr hml hown hts hlocks hT hZ hA hP hD hS hl
  have hK := hT.1
  have hu : ∀ w ∈ k_U, w.before ([.ref qm, .int p1, .int p2, .int p3] : List Value).toArray s = true := fun w h => hts w (List.mem_cons_of_mem _ h)
  have hown : s.vm.findClass RX6 = some m.cls := hown
  have hl : lv_has ls 5 [(0, .ref qm), (1, .int p1), (2, .int p2), (3, .int p3)] := hl
  unfold f_X6_send at h
  have w40 : ∀  (s0 : Int32) (s1 : Int32) (s2 : Int32) (m_w : (Nat → Int32)) (m_may : (Nat → Int32)) (m_least : (Nat → Int32)) (m_isCarried : (Nat → Int32)) (m_list : (Nat → Int32)) (m_nodes : (Nat → Int32)) (m_listMany : Int32) (m_went : Int32) (m_cost : Int32) (m_cause : Int32) (m_looks : Int32) (m_isSent : Int32) (m_isOld : Int32) (m_kept : (Nat → Int32)) (m_keptLow : (Nat → Int32)) (m_keptHigh : (Nat → Int32)) (m_keptMany : Int32) (m_keptNodes : (Nat → Int32)) (m_numbers : (Nat → Int32)) (H : Heap) (locs : List Loc) (ls : Array Slot), va_P D vwCl [(qm, .inr (6, [.ref qm_w, .ref qm_past, .int m_pastMany, .ref qm_images, .int m_filled, .ref qm_text, .int m_length, .ref qm_may, .ref qm_least, .ref qm_isCarried, .ref qm_list, .ref qm_nodes, .int m_listMany, .int m_went, .int m_cost, .int m_cause, .int m_looks, .int m_isSent, .int m_isOld, .ref qm_kept, .ref qm_keptLow, .ref qm_keptHigh, .int m_keptMany, .ref qm_keptNodes, .ref qm_numbers, .ref qm_sums, .ref qm_commands, .int m_commandMany, .ref qm_held])), (qm_w, .inl (cI, 93, .inl m_w)), (qm_may, .inl (cZ, 18, .inl m_may)), (qm_least, .inl (cI, 9, .inl m_least)), (qm_isCarried, .inl (cZ, 18, .inl m_isCarried)), (qm_list, .inl (cI, 18, .inl m_list)), (qm_nodes, .inl (cI, 41, .inl m_nodes)), (qm_kept, .inl (cI, 18, .inl m_kept)), (qm_keptLow, .inl (cI, 18, .inl m_keptLow)), (qm_keptHigh, .inl (cI, 18, .inl m_keptHigh)), (qm_keptNodes, .inl (cI, 41, .inl m_keptNodes)), (qm_numbers, .inl (cI, 6, .inl m_numbers))] H → va_D A [(qm, .inr (6, [.ref qm_w, .ref qm_past, .int m_pastMany, .ref qm_images, .int m_filled, .ref qm_text, .int m_length, .ref qm_may, .ref qm_least, .ref qm_isCarried, .ref qm_list, .ref qm_nodes, .int m_listMany, .int m_went, .int m_cost, .int m_cause, .int m_looks, .int m_isSent, .int m_isOld, .ref qm_kept, .ref qm_keptLow, .ref qm_keptHigh, .int m_keptMany, .ref qm_keptNodes, .ref qm_numbers, .ref qm_sums, .ref qm_commands, .int m_commandMany, .ref qm_held])), (qm_w, .inl (cI, 93, .inl m_w)), (qm_may, .inl (cZ, 18, .inl m_may)), (qm_least, .inl (cI, 9, .inl m_least)), (qm_isCarried, .inl (cZ, 18, .inl m_isCarried)), (qm_list, .inl (cI, 18, .inl m_list)), (qm_nodes, .inl (cI, 41, .inl m_nodes)), (qm_kept, .inl (cI, 18, .inl m_kept)), (qm_keptLow, .inl (cI, 18, .inl m_keptLow)), (qm_keptHigh, .inl (cI, 18, .inl m_keptHigh)), (qm_keptNodes, .inl (cI, 41, .inl m_keptNodes)), (qm_numbers, .inl (cI, 6, .inl m_numbers))] → va_S A s.heap H locs → lv_has ls 5 [(0, .ref qm)] → f_X6_send_b40 s0 s1 s2 m_w m_may m_least m_isCarried m_list m_nodes m_listMany m_went m_cost m_cause m_looks m_isSent m_isOld m_kept m_keptLow m_keptHigh m_keptMany m_keptNodes m_numbers = some (r, z_m_may, z_m_least, z_m_isCarried, z_m_list, z_m_nodes, z_m_listMany, z_m_went, z_m_cost, z_m_cause, z_m_looks, z_m_isSent, z_m_isOld, z_m_kept, z_m_keptLow, z_m_keptHigh, z_m_keptMany, z_m_keptNodes, z_m_numbers) → W p l e { frames := 5, cells := 0, slots := 0, locals := 119 } s m ([.ref qm, .int p1, .int p2, .int p3] : List Value).toArray below meth c H locs 0 0 (MQ below (k_QI D r [(qm, .inr (6, [.ref qm_w, .ref qm_past, .int m_pastMany, .ref qm_images, .int m_filled, .ref qm_text, .int m_length, .ref qm_may, .ref qm_least, .ref qm_isCarried, .ref qm_list, .ref qm_nodes, .int z_m_listMany, .int z_m_went, .int z_m_cost, .int z_m_cause, .int z_m_looks, .int z_m_isSent, .int z_m_isOld, .ref qm_kept, .ref qm_keptLow, .ref qm_keptHigh, .int z_m_keptMany, .ref qm_keptNodes, .ref qm_numbers, .ref qm_sums, .ref qm_commands, .int m_commandMany, .ref qm_held])), (qm_w, .inl (cI, 93, .inl m_w)), (qm_may, .inl (cZ, 18, .inl z_m_may)), (qm_least, .inl (cI, 9, .inl z_m_least)), (qm_isCarried, .inl (cZ, 18, .inl z_m_isCarried)), (qm_list, .inl (cI, 18, .inl z_m_list)), (qm_nodes, .inl (cI, 41, .inl z_m_nodes)), (qm_kept, .inl (cI, 18, .inl z_m_kept)), (qm_keptLow, .inl (cI, 18, .inl z_m_keptLow)), (qm_keptHigh, .inl (cI, 18, .inl z_m_keptHigh)), (qm_keptNodes, .inl (cI, 41, .inl z_m_keptNodes)), (qm_numbers, .inl (cI, 6, .inl z_m_numbers))] A) ([.ref qm, .int p1, .int p2, .int p3] : List Value).toArray s 0 0 A) (F0 m 40 ls [.int s0, .int s1, .int s2, .ref qm]) := by
    intro s0 s1 s2 m_w m_may m_least m_isCarried m_list m_nodes m_listMany m_went m_cost m_cause m_looks m_isSent m_isOld m_kept m_keptLow m_keptHigh m_keptMany m_keptNodes m_numbers H locs ls hP hD hS hl h
    unfold f_X6_send_b40 at h
    have w70 : ∀ (n70 : Nat) (x4 : Int32) (m_w : (Nat → Int32)) (m_may : (Nat → Int32)) (m_least : (Nat → Int32)) (m_isCarried : (Nat → Int32)) (m_list : (Nat → Int32)) (m_nodes : (Nat → Int32)) (m_listMany : Int32) (m_went : Int32) (m_cost : Int32) (m_cause : Int32) (m_looks : Int32) (m_isSent : Int32) (m_isOld : Int32) (m_kept : (Nat → Int32)) (m_keptLow : (Nat → Int32)) (m_keptHigh : (Nat → Int32)) (m_keptMany : Int32) (m_keptNodes : (Nat → Int32)) (m_numbers : (Nat → Int32)) (H : Heap) (locs : List Loc) (ls : Array Slot), va_P D vwCl [(qm, .inr (6, [.ref qm_w, .ref qm_past, .int m_pastMany, .ref qm_images, .int m_filled, .ref qm_text, .int m_length, .ref qm_may, .ref qm_least, .ref qm_isCarried, .ref qm_list, .ref qm_nodes, .int m_listMany, .int m_went, .int m_cost, .int m_cause, .int m_looks, .int m_isSent, .int m_isOld, .ref qm_kept, .ref qm_keptLow, .ref qm_keptHigh, .int m_keptMany, .ref qm_keptNodes, .ref qm_numbers, .ref qm_sums, .ref qm_commands, .int m_commandMany, .ref qm_held])), (qm_w, .inl (cI, 93, .inl m_w)), (qm_may, .inl (cZ, 18, .inl m_may)), (qm_least, .inl (cI, 9, .inl m_least)), (qm_isCarried, .inl (cZ, 18, .inl m_isCarried)), (qm_list, .inl (cI, 18, .inl m_list)), (qm_nodes, .inl (cI, 41, .inl m_nodes)), (qm_kept, .inl (cI, 18, .inl m_kept)), (qm_keptLow, .inl (cI, 18, .inl m_keptLow)), (qm_keptHigh, .inl (cI, 18, .inl m_keptHigh)), (qm_keptNodes, .inl (cI, 41, .inl m_keptNodes)), (qm_numbers, .inl (cI, 6, .inl m_numbers))] H → va_D A [(qm, .inr (6, [.ref qm_w, .ref qm_past, .int m_pastMany, .ref qm_images, .int m_filled, .ref qm_text, .int m_length, .ref qm_may, .ref qm_least, .ref qm_isCarried, .ref qm_list, .ref qm_nodes, .int m_listMany, .int m_went, .int m_cost, .int m_cause, .int m_looks, .int m_isSent, .int m_isOld, .ref qm_kept, .ref qm_keptLow, .ref qm_keptHigh, .int m_keptMany, .ref qm_keptNodes, .ref qm_numbers, .ref qm_sums, .ref qm_commands, .int m_commandMany, .ref qm_held])), (qm_w, .inl (cI, 93, .inl m_w)), (qm_may, .inl (cZ, 18, .inl m_may)), (qm_least, .inl (cI, 9, .inl m_least)), (qm_isCarried, .inl (cZ, 18, .inl m_isCarried)), (qm_list, .inl (cI, 18, .inl m_list)), (qm_nodes, .inl (cI, 41, .inl m_nodes)), (qm_kept, .inl (cI, 18, .inl m_kept)), (qm_keptLow, .inl (cI, 18, .inl m_keptLow)), (qm_keptHigh, .inl (cI, 18, .inl m_keptHigh)), (qm_keptNodes, .inl (cI, 41, .inl m_keptNodes)), (qm_numbers, .inl (cI, 6, .inl m_numbers))] → va_S A s.heap H locs → lv_has ls 5 [(0, .ref qm), (4, .int x4)] → f_X6_send_b70 n70 x4 m_w m_may m_least m_isCarried m_list m_nodes m_listMany m_went m_cost m_cause m_looks m_isSent m_isOld m_kept m_keptLow m_keptHigh m_keptMany m_keptNodes m_numbers = some (r, z_m_may, z_m_least, z_m_isCarried, z_m_list, z_m_nodes, z_m_listMany, z_m_went, z_m_cost, z_m_cause, z_m_looks, z_m_isSent, z_m_isOld, z_m_kept, z_m_keptLow, z_m_keptHigh, z_m_keptMany, z_m_keptNodes, z_m_numbers) → W p l e { frames := 5, cells := 0, slots := 0, locals := 119 } s m ([.ref qm, .int p1, .int p2, .int p3] : List Value).toArray below meth c H locs 0 0 (MQ below (k_QI D r [(qm, .inr (6, [.ref qm_w, .ref qm_past, .int m_pastMany, .ref qm_images, .int m_filled, .ref qm_text, .int m_length, .ref qm_may, .ref qm_least, .ref qm_isCarried, .ref qm_list, .ref qm_nodes, .int z_m_listMany, .int z_m_went, .int z_m_cost, .int z_m_cause, .int z_m_looks, .int z_m_isSent, .int z_m_isOld, .ref qm_kept, .ref qm_keptLow, .ref qm_keptHigh, .int z_m_keptMany, .ref qm_keptNodes, .ref qm_numbers, .ref qm_sums, .ref qm_commands, .int m_commandMany, .ref qm_held])), (qm_w, .inl (cI, 93, .inl m_w)), (qm_may, .inl (cZ, 18, .inl z_m_may)), (qm_least, .inl (cI, 9, .inl z_m_least)), (qm_isCarried, .inl (cZ, 18, .inl z_m_isCarried)), (qm_list, .inl (cI, 18, .inl z_m_list)), (qm_nodes, .inl (cI, 41, .inl z_m_nodes)), (qm_kept, .inl (cI, 18, .inl z_m_kept)), (qm_keptLow, .inl (cI, 18, .inl z_m_keptLow)), (qm_keptHigh, .inl (cI, 18, .inl z_m_keptHigh)), (qm_keptNodes, .inl (cI, 41, .inl z_m_keptNodes)), (qm_numbers, .inl (cI, 6, .inl z_m_numbers))] A) ([.ref qm, .int p1, .int p2, .int p3] : List Value).toArray s 0 0 A) (F0 m 70 ls []) := by
      intro n70
      induction n70 with
      | zero =>
        intro x4 m_w m_may m_least m_isCarried m_list m_nodes m_listMany m_went m_cost m_cause m_looks m_isSent m_isOld m_kept m_keptLow m_keptHigh m_keptMany m_keptNodes m_numbers H locs ls hP hD hS hl h
        rw [f_X6_send_b70] at h
        cases h
      | succ n70 ih70 =>
        intro x4 m_w m_may m_least m_isCarried m_list m_nodes m_listMany m_went m_cost m_cause m_looks m_isSent m_isOld m_kept m_keptLow m_keptHigh m_keptMany m_keptNodes m_numbers H locs ls hP hD hS hl h
        rw [f_X6_send_b70] at h
        have w140 : ∀ (n140 : Nat) (x4 : Int32) (m_w : (Nat → Int32)) (m_may : (Nat → Int32)) (m_least : (Nat → Int32)) (m_isCarried : (Nat → Int32)) (m_list : (Nat → Int32)) (m_nodes : (Nat → Int32)) (m_listMany : Int32) (m_went : Int32) (m_cost : Int32) (m_cause : Int32) (m_looks : Int32) (m_isSent : Int32) (m_isOld : Int32) (m_kept : (Nat → Int32)) (m_keptLow : (Nat → Int32)) (m_keptHigh : (Nat → Int32)) (m_keptMany : Int32) (m_keptNodes : (Nat → Int32)) (m_numbers : (Nat → Int32)) (H : Heap) (locs : List Loc) (ls : Array Slot), va_P D vwCl [(qm, .inr (6, [.ref qm_w, .ref qm_past, .int m_pastMany, .ref qm_images, .int m_filled, .ref qm_text, .int m_length, .ref qm_may, .ref qm_least, .ref qm_isCarried, .ref qm_list, .ref qm_nodes, .int m_listMany, .int m_went, .int m_cost, .int m_cause, .int m_looks, .int m_isSent, .int m_isOld, .ref qm_kept, .ref qm_keptLow, .ref qm_keptHigh, .int m_keptMany, .ref qm_keptNodes, .ref qm_numbers, .ref qm_sums, .ref qm_commands, .int m_commandMany, .ref qm_held])), (qm_w, .inl (cI, 93, .inl m_w)), (qm_may, .inl (cZ, 18, .inl m_may)), (qm_least, .inl (cI, 9, .inl m_least)), (qm_isCarried, .inl (cZ, 18, .inl m_isCarried)), (qm_list, .inl (cI, 18, .inl m_list)), (qm_nodes, .inl (cI, 41, .inl m_nodes)), (qm_kept, .inl (cI, 18, .inl m_kept)), (qm_keptLow, .inl (cI, 18, .inl m_keptLow)), (qm_keptHigh, .inl (cI, 18, .inl m_keptHigh)), (qm_keptNodes, .inl (cI, 41, .inl m_keptNodes)), (qm_numbers, .inl (cI, 6, .inl m_numbers))] H → va_D A [(qm, .inr (6, [.ref qm_w, .ref qm_past, .int m_pastMany, .ref qm_images, .int m_filled, .ref qm_text, .int m_length, .ref qm_may, .ref qm_least, .ref qm_isCarried, .ref qm_list, .ref qm_nodes, .int m_listMany, .int m_went, .int m_cost, .int m_cause, .int m_looks, .int m_isSent, .int m_isOld, .ref qm_kept, .ref qm_keptLow, .ref qm_keptHigh, .int m_keptMany, .ref qm_keptNodes, .ref qm_numbers, .ref qm_sums, .ref qm_commands, .int m_commandMany, .ref qm_held])), (qm_w, .inl (cI, 93, .inl m_w)), (qm_may, .inl (cZ, 18, .inl m_may)), (qm_least, .inl (cI, 9, .inl m_least)), (qm_isCarried, .inl (cZ, 18, .inl m_isCarried)), (qm_list, .inl (cI, 18, .inl m_list)), (qm_nodes, .inl (cI, 41, .inl m_nodes)), (qm_kept, .inl (cI, 18, .inl m_kept)), (qm_keptLow, .inl (cI, 18, .inl m_keptLow)), (qm_keptHigh, .inl (cI, 18, .inl m_keptHigh)), (qm_keptNodes, .inl (cI, 41, .inl m_keptNodes)), (qm_numbers, .inl (cI, 6, .inl m_numbers))] → va_S A s.heap H locs → lv_has ls 5 [(0, .ref qm), (4, .int x4)] → f_X6_send_b140 n140 x4 m_w m_may m_least m_isCarried m_list m_nodes m_listMany m_went m_cost m_cause m_looks m_isSent m_isOld m_kept m_keptLow m_keptHigh m_keptMany m_keptNodes m_numbers = some (r, z_m_may, z_m_least, z_m_isCarried, z_m_list, z_m_nodes, z_m_listMany, z_m_went, z_m_cost, z_m_cause, z_m_looks, z_m_isSent, z_m_isOld, z_m_kept, z_m_keptLow, z_m_keptHigh, z_m_keptMany, z_m_keptNodes, z_m_numbers) → W p l e { frames := 5, cells := 0, slots := 0, locals := 119 } s m ([.ref qm, .int p1, .int p2, .int p3] : List Value).toArray below meth c H locs 0 0 (MQ below (k_QI D r [(qm, .inr (6, [.ref qm_w, .ref qm_past, .int m_pastMany, .ref qm_images, .int m_filled, .ref qm_text, .int m_length, .ref qm_may, .ref qm_least, .ref qm_isCarried, .ref qm_list, .ref qm_nodes, .int z_m_listMany, .int z_m_went, .int z_m_cost, .int z_m_cause, .int z_m_looks, .int z_m_isSent, .int z_m_isOld, .ref qm_kept, .ref qm_keptLow, .ref qm_keptHigh, .int z_m_keptMany, .ref qm_keptNodes, .ref qm_numbers, .ref qm_sums, .ref qm_commands, .int m_commandMany, .ref qm_held])), (qm_w, .inl (cI, 93, .inl m_w)), (qm_may, .inl (cZ, 18, .inl z_m_may)), (qm_least, .inl (cI, 9, .inl z_m_least)), (qm_isCarried, .inl (cZ, 18, .inl z_m_isCarried)), (qm_list, .inl (cI, 18, .inl z_m_list)), (qm_nodes, .inl (cI, 41, .inl z_m_nodes)), (qm_kept, .inl (cI, 18, .inl z_m_kept)), (qm_keptLow, .inl (cI, 18, .inl z_m_keptLow)), (qm_keptHigh, .inl (cI, 18, .inl z_m_keptHigh)), (qm_keptNodes, .inl (cI, 41, .inl z_m_keptNodes)), (qm_numbers, .inl (cI, 6, .inl z_m_numbers))] A) ([.ref qm, .int p1, .int p2, .int p3] : List Value).toArray s 0 0 A) (F0 m 140 ls []) := by
          intro n140
          induction n140 with
          | zero =>
            intro x4 m_w m_may m_least m_isCarried m_list m_nodes m_listMany m_went m_cost m_cause m_looks m_isSent m_isOld m_kept m_keptLow m_keptHigh m_keptMany m_keptNodes m_numbers H locs ls hP hD hS hl h
            rw [f_X6_send_b140] at h
            cases h
          | succ n140 ih140 =>
            intro x4 m_w m_may m_least m_isCarried m_list m_nodes m_listMany m_went m_cost m_cause m_looks m_isSent m_isOld m_kept m_keptLow m_keptHigh m_keptMany m_keptNodes m_numbers H locs ls hP hD hS hl h
            rw [f_X6_send_b140] at h
            refine lv_iload hx hb dX6_send_140 (lv_at hl 1 rfl) ?_
            refine lv_aload_n hx hb dX6_send_142 rfl (lv_at hl 0 rfl) ?_
            refine va_get (D := D) (ci := 6) (v := .int m_went) (C := RX6) (T := TX6) (N := 29) hx hb hu k_iX6 hown hK hP 0 rfl rfl 13 (by decide) (hu _ u_731) (fun _ h9 => h9) rfl dX6_send_143 ?_
            refine lv_icmp_gt (tgt := 169) hx hb dX6_send_146 (by decide) (fun cc_26 => ?_) (fun cc_26 => ?_)
            · have h := (if_pos cc_26).symm.trans h
              refine lv_aload_n hx hb dX6_send_169 rfl (lv_at hl 0 rfl) ?_
              refine va_get (D := D) (ci := 6) (v := .ref qm_numbers) (C := RX6) (T := TX6) (N := 29) hx hb hu k_iX6 hown hK hP 0 rfl rfl 24 (by decide) (hu _ u_742) (fun _ h9 => h9) rfl dX6_send_170 ?_
              refine lv_iconst (v := (0 : Int32)) hx hb dX6_send_173 (by decide) ?_
              refine lv_aload_n hx hb dX6_send_174 rfl (lv_at hl 0 rfl) ?_
              refine va_get (D := D) (ci := 6) (v := .int m_went) (C := RX6) (T := TX6) (N := 29) hx hb hu k_iX6 hown hK hP 0 rfl rfl 13 (by decide) (hu _ u_731) (fun _ h9 => h9) rfl dX6_send_175 ?_
              refine va_iast (D := D) hx hb hK hP hD hS 11 0 rfl rfl (inb_in (by decide)) dX6_send_178 (fun H locs hP hD hS => ?_)
              have hP : va_P D vwCl [(qm, .inr (6, [.ref qm_w, .ref qm_past, .int m_pastMany, .ref qm_images, .int m_filled, .ref qm_text, .int m_length, .ref qm_may, .ref qm_least, .ref qm_isCarried, .ref qm_list, .ref qm_nodes, .int m_listMany, .int m_went, .int m_cost, .int m_cause, .int m_looks, .int m_isSent, .int m_isOld, .ref qm_kept, .ref qm_keptLow, .ref qm_keptHigh, .int m_keptMany, .ref qm_keptNodes, .ref qm_numbers, .ref qm_sums, .ref qm_commands, .int m_commandMany, .ref qm_held])), (qm_w, .inl (cI, 93, .inl m_w)), (qm_may, .inl (cZ, 18, .inl m_may)), (qm_least, .inl (cI, 9, .inl m_least)), (qm_isCarried, .inl (cZ, 18, .inl m_isCarried)), (qm_list, .inl (cI, 18, .inl m_list)), (qm_nodes, .inl (cI, 41, .inl m_nodes)), (qm_kept, .inl (cI, 18, .inl m_kept)), (qm_keptLow, .inl (cI, 18, .inl m_keptLow)), (qm_keptHigh, .inl (cI, 18, .inl m_keptHigh)), (qm_keptNodes, .inl (cI, 41, .inl m_keptNodes)), (qm_numbers, .inl (cI, 6, .inl (upd m_numbers (Int32.toNatClampNeg (0 : Int32)) m_went)))] H := hP
              have hD : va_D A [(qm, .inr (6, [.ref qm_w, .ref qm_past, .int m_pastMany, .ref qm_images, .int m_filled, .ref qm_text, .int m_length, .ref qm_may, .ref qm_least, .ref qm_isCarried, .ref qm_list, .ref qm_nodes, .int m_listMany, .int m_went, .int m_cost, .int m_cause, .int m_looks, .int m_isSent, .int m_isOld, .ref qm_kept, .ref qm_keptLow, .ref qm_keptHigh, .int m_keptMany, .ref qm_keptNodes, .ref qm_numbers, .ref qm_sums, .ref qm_commands, .int m_commandMany, .ref qm_held])), (qm_w, .inl (cI, 93, .inl m_w)), (qm_may, .inl (cZ, 18, .inl m_may)), (qm_least, .inl (cI, 9, .inl m_least)), (qm_isCarried, .inl (cZ, 18, .inl m_isCarried)), (qm_list, .inl (cI, 18, .inl m_list)), (qm_nodes, .inl (cI, 41, .inl m_nodes)), (qm_kept, .inl (cI, 18, .inl m_kept)), (qm_keptLow, .inl (cI, 18, .inl m_keptLow)), (qm_keptHigh, .inl (cI, 18, .inl m_keptHigh)), (qm_keptNodes, .inl (cI, 41, .inl m_keptNodes)), (qm_numbers, .inl (cI, 6, .inl (upd m_numbers (Int32.toNatClampNeg (0 : Int32)) m_went)))] := hD
              refine lv_aload_n hx hb dX6_send_179 rfl (lv_at hl 0 rfl) ?_
              refine va_get (D := D) (ci := 6) (v := .ref qm_numbers) (C := RX6) (T := TX6) (N := 29) hx hb hu k_iX6 hown hK hP 0 rfl rfl 24 (by decide) (hu _ u_742) (fun _ h9 => h9) rfl dX6_send_180 ?_
              refine lv_iconst (v := (1 : Int32)) hx hb dX6_send_183 (by decide) ?_
              refine lv_aload_n hx hb dX6_send_184 rfl (lv_at hl 0 rfl) ?_
              refine va_get (D := D) (ci := 6) (v := .int m_cost) (C := RX6) (T := TX6) (N := 29) hx hb hu k_iX6 hown hK hP 0 rfl rfl 14 (by decide) (hu _ u_732) (fun _ h9 => h9) rfl dX6_send_185 ?_
              refine va_iast (D := D) hx hb hK hP hD hS 11 0 rfl rfl (inb_in (by decide)) dX6_send_188 (fun H locs hP hD hS => ?_)
              have hP : va_P D vwCl [(qm, .inr (6, [.ref qm_w, .ref qm_past, .int m_pastMany, .ref qm_images, .int m_filled, .ref qm_text, .int m_length, .ref qm_may, .ref qm_least, .ref qm_isCarried, .ref qm_list, .ref qm_nodes, .int m_listMany, .int m_went, .int m_cost, .int m_cause, .int m_looks, .int m_isSent, .int m_isOld, .ref qm_kept, .ref qm_keptLow, .ref qm_keptHigh, .int m_keptMany, .ref qm_keptNodes, .ref qm_numbers, .ref qm_sums, .ref qm_commands, .int m_commandMany, .ref qm_held])), (qm_w, .inl (cI, 93, .inl m_w)), (qm_may, .inl (cZ, 18, .inl m_may)), (qm_least, .inl (cI, 9, .inl m_least)), (qm_isCarried, .inl (cZ, 18, .inl m_isCarried)), (qm_list, .inl (cI, 18, .inl m_list)), (qm_nodes, .inl (cI, 41, .inl m_nodes)), (qm_kept, .inl (cI, 18, .inl m_kept)), (qm_keptLow, .inl (cI, 18, .inl m_keptLow)), (qm_keptHigh, .inl (cI, 18, .inl m_keptHigh)), (qm_keptNodes, .inl (cI, 41, .inl m_keptNodes)), (qm_numbers, .inl (cI, 6, .inl (upd (upd m_numbers (Int32.toNatClampNeg (0 : Int32)) m_went) (Int32.toNatClampNeg (1 : Int32)) m_cost)))] H := hP
              have hD : va_D A [(qm, .inr (6, [.ref qm_w, .ref qm_past, .int m_pastMany, .ref qm_images, .int m_filled, .ref qm_text, .int m_length, .ref qm_may, .ref qm_least, .ref qm_isCarried, .ref qm_list, .ref qm_nodes, .int m_listMany, .int m_went, .int m_cost, .int m_cause, .int m_looks, .int m_isSent, .int m_isOld, .ref qm_kept, .ref qm_keptLow, .ref qm_keptHigh, .int m_keptMany, .ref qm_keptNodes, .ref qm_numbers, .ref qm_sums, .ref qm_commands, .int m_commandMany, .ref qm_held])), (qm_w, .inl (cI, 93, .inl m_w)), (qm_may, .inl (cZ, 18, .inl m_may)), (qm_least, .inl (cI, 9, .inl m_least)), (qm_isCarried, .inl (cZ, 18, .inl m_isCarried)), (qm_list, .inl (cI, 18, .inl m_list)), (qm_nodes, .inl (cI, 41, .inl m_nodes)), (qm_kept, .inl (cI, 18, .inl m_kept)), (qm_keptLow, .inl (cI, 18, .inl m_keptLow)), (qm_keptHigh, .inl (cI, 18, .inl m_keptHigh)), (qm_keptNodes, .inl (cI, 41, .inl m_keptNodes)), (qm_numbers, .inl (cI, 6, .inl (upd (upd m_numbers (Int32.toNatClampNeg (0 : Int32)) m_went) (Int32.toNatClampNeg (1 : Int32)) m_cost)))] := hD
              refine lv_aload_n hx hb dX6_send_189 rfl (lv_at hl 0 rfl) ?_
              refine va_get (D := D) (ci := 6) (v := .ref qm_numbers) (C := RX6) (T := TX6) (N := 29) hx hb hu k_iX6 hown hK hP 0 rfl rfl 24 (by decide) (hu _ u_742) (fun _ h9 => h9) rfl dX6_send_190 ?_
              refine lv_iconst (v := (2 : Int32)) hx hb dX6_send_193 (by decide) ?_
              refine lv_aload_n hx hb dX6_send_194 rfl (lv_at hl 0 rfl) ?_
              refine va_get (D := D) (ci := 6) (v := .int m_listMany) (C := RX6) (T := TX6) (N := 29) hx hb hu k_iX6 hown hK hP 0 rfl rfl 12 (by decide) (hu _ u_730) (fun _ h9 => h9) rfl dX6_send_195 ?_
              refine va_iast (D := D) hx hb hK hP hD hS 11 0 rfl rfl (inb_in (by decide)) dX6_send_198 (fun H locs hP hD hS => ?_)
              have hP : va_P D vwCl [(qm, .inr (6, [.ref qm_w, .ref qm_past, .int m_pastMany, .ref qm_images, .int m_filled, .ref qm_text, .int m_length, .ref qm_may, .ref qm_least, .ref qm_isCarried, .ref qm_list, .ref qm_nodes, .int m_listMany, .int m_went, .int m_cost, .int m_cause, .int m_looks, .int m_isSent, .int m_isOld, .ref qm_kept, .ref qm_keptLow, .ref qm_keptHigh, .int m_keptMany, .ref qm_keptNodes, .ref qm_numbers, .ref qm_sums, .ref qm_commands, .int m_commandMany, .ref qm_held])), (qm_w, .inl (cI, 93, .inl m_w)), (qm_may, .inl (cZ, 18, .inl m_may)), (qm_least, .inl (cI, 9, .inl m_least)), (qm_isCarried, .inl (cZ, 18, .inl m_isCarried)), (qm_list, .inl (cI, 18, .inl m_list)), (qm_nodes, .inl (cI, 41, .inl m_nodes)), (qm_kept, .inl (cI, 18, .inl m_kept)), (qm_keptLow, .inl (cI, 18, .inl m_keptLow)), (qm_keptHigh, .inl (cI, 18, .inl m_keptHigh)), (qm_keptNodes, .inl (cI, 41, .inl m_keptNodes)), (qm_numbers, .inl (cI, 6, .inl (upd (upd (upd m_numbers (Int32.toNatClampNeg (0 : Int32)) m_went) (Int32.toNatClampNeg (1 : Int32)) m_cost) (Int32.toNatClampNeg (2 : Int32)) m_listMany)))] H := hP
              have hD : va_D A [(qm, .inr (6, [.ref qm_w, .ref qm_past, .int m_pastMany, .ref qm_images, .int m_filled, .ref qm_text, .int m_length, .ref qm_may, .ref qm_least, .ref qm_isCarried, .ref qm_list, .ref qm_nodes, .int m_listMany, .int m_went, .int m_cost, .int m_cause, .int m_looks, .int m_isSent, .int m_isOld, .ref qm_kept, .ref qm_keptLow, .ref qm_keptHigh, .int m_keptMany, .ref qm_keptNodes, .ref qm_numbers, .ref qm_sums, .ref qm_commands, .int m_commandMany, .ref qm_held])), (qm_w, .inl (cI, 93, .inl m_w)), (qm_may, .inl (cZ, 18, .inl m_may)), (qm_least, .inl (cI, 9, .inl m_least)), (qm_isCarried, .inl (cZ, 18, .inl m_isCarried)), (qm_list, .inl (cI, 18, .inl m_list)), (qm_nodes, .inl (cI, 41, .inl m_nodes)), (qm_kept, .inl (cI, 18, .inl m_kept)), (qm_keptLow, .inl (cI, 18, .inl m_keptLow)), (qm_keptHigh, .inl (cI, 18, .inl m_keptHigh)), (qm_keptNodes, .inl (cI, 41, .inl m_keptNodes)), (qm_numbers, .inl (cI, 6, .inl (upd (upd (upd m_numbers (Int32.toNatClampNeg (0 : Int32)) m_went) (Int32.toNatClampNeg (1 : Int32)) m_cost) (Int32.toNatClampNeg (2 : Int32)) m_listMany)))] := hD
              refine lv_aload_n hx hb dX6_send_199 rfl (lv_at hl 0 rfl) ?_
              refine va_get (D := D) (ci := 6) (v := .ref qm_numbers) (C := RX6) (T := TX6) (N := 29) hx hb hu k_iX6 hown hK hP 0 rfl rfl 24 (by decide) (hu _ u_742) (fun _ h9 => h9) rfl dX6_send_200 ?_
              refine lv_iconst (v := (3 : Int32)) hx hb dX6_send_203 (by decide) ?_
              refine lv_aload_n hx hb dX6_send_204 rfl (lv_at hl 0 rfl) ?_
              refine va_get (D := D) (ci := 6) (v := .int m_cause) (C := RX6) (T := TX6) (N := 29) hx hb hu k_iX6 hown hK hP 0 rfl rfl 15 (by decide) (hu _ u_733) (fun _ h9 => h9) rfl dX6_send_205 ?_
              refine va_iast (D := D) hx hb hK hP hD hS 11 0 rfl rfl (inb_in (by decide)) dX6_send_208 (fun H locs hP hD hS => ?_)
              have hP : va_P D vwCl [(qm, .inr (6, [.ref qm_w, .ref qm_past, .int m_pastMany, .ref qm_images, .int m_filled, .ref qm_text, .int m_length, .ref qm_may, .ref qm_least, .ref qm_isCarried, .ref qm_list, .ref qm_nodes, .int m_listMany, .int m_went, .int m_cost, .int m_cause, .int m_looks, .int m_isSent, .int m_isOld, .ref qm_kept, .ref qm_keptLow, .ref qm_keptHigh, .int m_keptMany, .ref qm_keptNodes, .ref qm_numbers, .ref qm_sums, .ref qm_commands, .int m_commandMany, .ref qm_held])), (qm_w, .inl (cI, 93, .inl m_w)), (qm_may, .inl (cZ, 18, .inl m_may)), (qm_least, .inl (cI, 9, .inl m_least)), (qm_isCarried, .inl (cZ, 18, .inl m_isCarried)), (qm_list, .inl (cI, 18, .inl m_list)), (qm_nodes, .inl (cI, 41, .inl m_nodes)), (qm_kept, .inl (cI, 18, .inl m_kept)), (qm_keptLow, .inl (cI, 18, .inl m_keptLow)), (qm_keptHigh, .inl (cI, 18, .inl m_keptHigh)), (qm_keptNodes, .inl (cI, 41, .inl m_keptNodes)), (qm_numbers, .inl (cI, 6, .inl (upd (upd (upd (upd m_numbers (Int32.toNatClampNeg (0 : Int32)) m_went) (Int32.toNatClampNeg (1 : Int32)) m_cost) (Int32.toNatClampNeg (2 : Int32)) m_listMany) (Int32.toNatClampNeg (3 : Int32)) m_cause)))] H := hP
              have hD : va_D A [(qm, .inr (6, [.ref qm_w, .ref qm_past, .int m_pastMany, .ref qm_images, .int m_filled, .ref qm_text, .int m_length, .ref qm_may, .ref qm_least, .ref qm_isCarried, .ref qm_list, .ref qm_nodes, .int m_listMany, .int m_went, .int m_cost, .int m_cause, .int m_looks, .int m_isSent, .int m_isOld, .ref qm_kept, .ref qm_keptLow, .ref qm_keptHigh, .int m_keptMany, .ref qm_keptNodes, .ref qm_numbers, .ref qm_sums, .ref qm_commands, .int m_commandMany, .ref qm_held])), (qm_w, .inl (cI, 93, .inl m_w)), (qm_may, .inl (cZ, 18, .inl m_may)), (qm_least, .inl (cI, 9, .inl m_least)), (qm_isCarried, .inl (cZ, 18, .inl m_isCarried)), (qm_list, .inl (cI, 18, .inl m_list)), (qm_nodes, .inl (cI, 41, .inl m_nodes)), (qm_kept, .inl (cI, 18, .inl m_kept)), (qm_keptLow, .inl (cI, 18, .inl m_keptLow)), (qm_keptHigh, .inl (cI, 18, .inl m_keptHigh)), (qm_keptNodes, .inl (cI, 41, .inl m_keptNodes)), (qm_numbers, .inl (cI, 6, .inl (upd (upd (upd (upd m_numbers (Int32.toNatClampNeg (0 : Int32)) m_went) (Int32.toNatClampNeg (1 : Int32)) m_cost) (Int32.toNatClampNeg (2 : Int32)) m_listMany) (Int32.toNatClampNeg (3 : Int32)) m_cause)))] := hD
              refine lv_aload_n hx hb dX6_send_209 rfl (lv_at hl 0 rfl) ?_
              refine va_get (D := D) (ci := 6) (v := .ref qm_numbers) (C := RX6) (T := TX6) (N := 29) hx hb hu k_iX6 hown hK hP 0 rfl rfl 24 (by decide) (hu _ u_742) (fun _ h9 => h9) rfl dX6_send_210 ?_
              refine lv_iconst (v := (4 : Int32)) hx hb dX6_send_213 (by decide) ?_
              refine lv_aload_n hx hb dX6_send_214 rfl (lv_at hl 0 rfl) ?_
              refine va_get (D := D) (ci := 6) (v := .ref qm_nodes) (C := RX6) (T := TX6) (N := 29) hx hb hu k_iX6 hown hK hP 0 rfl rfl 11 (by decide) (hu _ u_729) (fun _ h9 => h9) rfl dX6_send_215 ?_
              refine lv_aload_n hx hb dX6_send_218 rfl (lv_at hl 0 rfl) ?_
              refine va_get (D := D) (ci := 6) (v := .int m_went) (C := RX6) (T := TX6) (N := 29) hx hb hu k_iX6 hown hK hP 0 rfl rfl 13 (by decide) (hu _ u_731) (fun _ h9 => h9) rfl dX6_send_219 ?_
              obtain ⟨hin_27, h⟩ := ob_if h
              have hin_27 := inb_in hin_27
              refine va_iald (D := D) hx hb hK hP 6 0 rfl rfl hin_27 dX6_send_222 ?_
              refine va_iast (D := D) hx hb hK hP hD hS 11 0 rfl rfl (inb_in (by decide)) dX6_send_223 (fun H locs hP hD hS => ?_)
              have hP : va_P D vwCl [(qm, .inr (6, [.ref qm_w, .ref qm_past, .int m_pastMany, .ref qm_images, .int m_filled, .ref qm_text, .int m_length, .ref qm_may, .ref qm_least, .ref qm_isCarried, .ref qm_list, .ref qm_nodes, .int m_listMany, .int m_went, .int m_cost, .int m_cause, .int m_looks, .int m_isSent, .int m_isOld, .ref qm_kept, .ref qm_keptLow, .ref qm_keptHigh, .int m_keptMany, .ref qm_keptNodes, .ref qm_numbers, .ref qm_sums, .ref qm_commands, .int m_commandMany, .ref qm_held])), (qm_w, .inl (cI, 93, .inl m_w)), (qm_may, .inl (cZ, 18, .inl m_may)), (qm_least, .inl (cI, 9, .inl m_least)), (qm_isCarried, .inl (cZ, 18, .inl m_isCarried)), (qm_list, .inl (cI, 18, .inl m_list)), (qm_nodes, .inl (cI, 41, .inl m_nodes)), (qm_kept, .inl (cI, 18, .inl m_kept)), (qm_keptLow, .inl (cI, 18, .inl m_keptLow)), (qm_keptHigh, .inl (cI, 18, .inl m_keptHigh)), (qm_keptNodes, .inl (cI, 41, .inl m_keptNodes)), (qm_numbers, .inl (cI, 6, .inl (upd (upd (upd (upd (upd m_numbers (Int32.toNatClampNeg (0 : Int32)) m_went) (Int32.toNatClampNeg (1 : Int32)) m_cost) (Int32.toNatClampNeg (2 : Int32)) m_listMany) (Int32.toNatClampNeg (3 : Int32)) m_cause) (Int32.toNatClampNeg (4 : Int32)) (m_nodes (Int32.toNatClampNeg m_went)))))] H := hP
              have hD : va_D A [(qm, .inr (6, [.ref qm_w, .ref qm_past, .int m_pastMany, .ref qm_images, .int m_filled, .ref qm_text, .int m_length, .ref qm_may, .ref qm_least, .ref qm_isCarried, .ref qm_list, .ref qm_nodes, .int m_listMany, .int m_went, .int m_cost, .int m_cause, .int m_looks, .int m_isSent, .int m_isOld, .ref qm_kept, .ref qm_keptLow, .ref qm_keptHigh, .int m_keptMany, .ref qm_keptNodes, .ref qm_numbers, .ref qm_sums, .ref qm_commands, .int m_commandMany, .ref qm_held])), (qm_w, .inl (cI, 93, .inl m_w)), (qm_may, .inl (cZ, 18, .inl m_may)), (qm_least, .inl (cI, 9, .inl m_least)), (qm_isCarried, .inl (cZ, 18, .inl m_isCarried)), (qm_list, .inl (cI, 18, .inl m_list)), (qm_nodes, .inl (cI, 41, .inl m_nodes)), (qm_kept, .inl (cI, 18, .inl m_kept)), (qm_keptLow, .inl (cI, 18, .inl m_keptLow)), (qm_keptHigh, .inl (cI, 18, .inl m_keptHigh)), (qm_keptNodes, .inl (cI, 41, .inl m_keptNodes)), (qm_numbers, .inl (cI, 6, .inl (upd (upd (upd (upd (upd m_numbers (Int32.toNatClampNeg (0 : Int32)) m_went) (Int32.toNatClampNeg (1 : Int32)) m_cost) (Int32.toNatClampNeg (2 : Int32)) m_listMany) (Int32.toNatClampNeg (3 : Int32)) m_cause) (Int32.toNatClampNeg (4 : Int32)) (m_nodes (Int32.toNatClampNeg m_went)))))] := hD
              refine lv_aload_n hx hb dX6_send_224 rfl (lv_at hl 0 rfl) ?_
              refine va_get (D := D) (ci := 6) (v := .ref qm_numbers) (C := RX6) (T := TX6) (N := 29) hx hb hu k_iX6 hown hK hP 0 rfl rfl 24 (by decide) (hu _ u_742) (fun _ h9 => h9) rfl dX6_send_225 ?_
              refine lv_iconst (v := (5 : Int32)) hx hb dX6_send_228 (by decide) ?_
              refine lv_aload_n hx hb dX6_send_229 rfl (lv_at hl 0 rfl) ?_
              refine va_get (D := D) (ci := 6) (v := .int m_looks) (C := RX6) (T := TX6) (N := 29) hx hb hu k_iX6 hown hK hP 0 rfl rfl 16 (by decide) (hu _ u_734) (fun _ h9 => h9) rfl dX6_send_230 ?_
              refine va_iast (D := D) hx hb hK hP hD hS 11 0 rfl rfl (inb_in (by decide)) dX6_send_233 (fun H locs hP hD hS => ?_)
              have hP : va_P D vwCl [(qm, .inr (6, [.ref qm_w, .ref qm_past, .int m_pastMany, .ref qm_images, .int m_filled, .ref qm_text, .int m_length, .ref qm_may, .ref qm_least, .ref qm_isCarried, .ref qm_list, .ref qm_nodes, .int m_listMany, .int m_went, .int m_cost, .int m_cause, .int m_looks, .int m_isSent, .int m_isOld, .ref qm_kept, .ref qm_keptLow, .ref qm_keptHigh, .int m_keptMany, .ref qm_keptNodes, .ref qm_numbers, .ref qm_sums, .ref qm_commands, .int m_commandMany, .ref qm_held])), (qm_w, .inl (cI, 93, .inl m_w)), (qm_may, .inl (cZ, 18, .inl m_may)), (qm_least, .inl (cI, 9, .inl m_least)), (qm_isCarried, .inl (cZ, 18, .inl m_isCarried)), (qm_list, .inl (cI, 18, .inl m_list)), (qm_nodes, .inl (cI, 41, .inl m_nodes)), (qm_kept, .inl (cI, 18, .inl m_kept)), (qm_keptLow, .inl (cI, 18, .inl m_keptLow)), (qm_keptHigh, .inl (cI, 18, .inl m_keptHigh)), (qm_keptNodes, .inl (cI, 41, .inl m_keptNodes)), (qm_numbers, .inl (cI, 6, .inl (upd (upd (upd (upd (upd (upd m_numbers (Int32.toNatClampNeg (0 : Int32)) m_went) (Int32.toNatClampNeg (1 : Int32)) m_cost) (Int32.toNatClampNeg (2 : Int32)) m_listMany) (Int32.toNatClampNeg (3 : Int32)) m_cause) (Int32.toNatClampNeg (4 : Int32)) (m_nodes (Int32.toNatClampNeg m_went))) (Int32.toNatClampNeg (5 : Int32)) m_looks)))] H := hP
              have hD : va_D A [(qm, .inr (6, [.ref qm_w, .ref qm_past, .int m_pastMany, .ref qm_images, .int m_filled, .ref qm_text, .int m_length, .ref qm_may, .ref qm_least, .ref qm_isCarried, .ref qm_list, .ref qm_nodes, .int m_listMany, .int m_went, .int m_cost, .int m_cause, .int m_looks, .int m_isSent, .int m_isOld, .ref qm_kept, .ref qm_keptLow, .ref qm_keptHigh, .int m_keptMany, .ref qm_keptNodes, .ref qm_numbers, .ref qm_sums, .ref qm_commands, .int m_commandMany, .ref qm_held])), (qm_w, .inl (cI, 93, .inl m_w)), (qm_may, .inl (cZ, 18, .inl m_may)), (qm_least, .inl (cI, 9, .inl m_least)), (qm_isCarried, .inl (cZ, 18, .inl m_isCarried)), (qm_list, .inl (cI, 18, .inl m_list)), (qm_nodes, .inl (cI, 41, .inl m_nodes)), (qm_kept, .inl (cI, 18, .inl m_kept)), (qm_keptLow, .inl (cI, 18, .inl m_keptLow)), (qm_keptHigh, .inl (cI, 18, .inl m_keptHigh)), (qm_keptNodes, .inl (cI, 41, .inl m_keptNodes)), (qm_numbers, .inl (cI, 6, .inl (upd (upd (upd (upd (upd (upd m_numbers (Int32.toNatClampNeg (0 : Int32)) m_went) (Int32.toNatClampNeg (1 : Int32)) m_cost) (Int32.toNatClampNeg (2 : Int32)) m_listMany) (Int32.toNatClampNeg (3 : Int32)) m_cause) (Int32.toNatClampNeg (4 : Int32)) (m_nodes (Int32.toNatClampNeg m_went))) (Int32.toNatClampNeg (5 : Int32)) m_looks)))] := hD
              refine lv_aload_n hx hb dX6_send_234 rfl (lv_at hl 0 rfl) ?_
              refine va_get (D := D) (ci := 6) (v := .int m_cause) (C := RX6) (T := TX6) (N := 29) hx hb hu k_iX6 hown hK hP 0 rfl rfl 15 (by decide) (hu _ u_733) (fun _ h9 => h9) rfl dX6_send_235 ?_
              refine lv_if_ne (tgt := 248) hx hb dX6_send_238 (by decide) (fun cc_28 => ?_) (fun cc_28 => ?_)
              · have h := (if_neg cc_28).symm.trans h
                refine lv_bipush (v := (-10 : Int32)) hx hb dX6_send_248 (by decide) ?_
                refine lv_aload_n hx hb dX6_send_250 rfl (lv_at hl 0 rfl) ?_
                refine va_get (D := D) (ci := 6) (v := .int m_cause) (C := RX6) (T := TX6) (N := 29) hx hb hu k_iX6 hown hK hP 0 rfl rfl 15 (by decide) (hu _ u_733) (fun _ h9 => h9) rfl dX6_send_251 ?_
                refine lv_isub hx hb dX6_send_254 ?_
                have hq := Option.some.inj h
                clear h
                obtain ⟨e0, hq0⟩ := Prod.mk.inj hq
                clear hq
                obtain ⟨e1, hq1⟩ := Prod.mk.inj hq0
                clear hq0
                obtain ⟨e2, hq2⟩ := Prod.mk.inj hq1
                clear hq1
                obtain ⟨e3, hq3⟩ := Prod.mk.inj hq2
                clear hq2
                obtain ⟨e4, hq4⟩ := Prod.mk.inj hq3
                clear hq3
                obtain ⟨e5, hq5⟩ := Prod.mk.inj hq4
                clear hq4
                obtain ⟨e6, hq6⟩ := Prod.mk.inj hq5
                clear hq5
                obtain ⟨e7, hq7⟩ := Prod.mk.inj hq6
                clear hq6
                obtain ⟨e8, hq8⟩ := Prod.mk.inj hq7
                clear hq7
                obtain ⟨e9, hq9⟩ := Prod.mk.inj hq8
                clear hq8
                obtain ⟨e10, hq10⟩ := Prod.mk.inj hq9
                clear hq9
                obtain ⟨e11, hq11⟩ := Prod.mk.inj hq10
                clear hq10
                obtain ⟨e12, hq12⟩ := Prod.mk.inj hq11
                clear hq11
                obtain ⟨e13, hq13⟩ := Prod.mk.inj hq12
                clear hq12
                obtain ⟨e14, hq14⟩ := Prod.mk.inj hq13
                clear hq13
                obtain ⟨e15, hq15⟩ := Prod.mk.inj hq14
                clear hq14
                obtain ⟨e16, hq16⟩ := Prod.mk.inj hq15
                clear hq15
                obtain ⟨e17, hq17⟩ := Prod.mk.inj hq16
                clear hq16
                subst e0
                subst e1
                subst e2
                subst e3
                subst e4
                subst e5
                subst e6
                subst e7
                subst e8
                subst e9
                subst e10
                subst e11
                subst e12
                subst e13
                subst e14
                subst e15
                subst e16
                subst e17
                subst hq17
                exact k_retI hx hb hr hlocks hP hD hS dX6_send_255
              · have h := (if_pos cc_28).symm.trans h
                refine lv_aload_n hx hb dX6_send_241 rfl (lv_at hl 0 rfl) ?_
                refine va_get (D := D) (ci := 6) (v := .int m_went) (C := RX6) (T := TX6) (N := 29) hx hb hu k_iX6 hown hK hP 0 rfl rfl 13 (by decide) (hu _ u_731) (fun _ h9 => h9) rfl dX6_send_242 ?_
                refine lv_goto (tgt := 255) hx hb dX6_send_245 (by decide) ?_
                have hq := Option.some.inj h
                clear h
                obtain ⟨e0, hq0⟩ := Prod.mk.inj hq
                clear hq
                obtain ⟨e1, hq1⟩ := Prod.mk.inj hq0
                clear hq0
                obtain ⟨e2, hq2⟩ := Prod.mk.inj hq1
                clear hq1
                obtain ⟨e3, hq3⟩ := Prod.mk.inj hq2
                clear hq2
                obtain ⟨e4, hq4⟩ := Prod.mk.inj hq3
                clear hq3
                obtain ⟨e5, hq5⟩ := Prod.mk.inj hq4
                clear hq4
                obtain ⟨e6, hq6⟩ := Prod.mk.inj hq5
                clear hq5
                obtain ⟨e7, hq7⟩ := Prod.mk.inj hq6
                clear hq6
                obtain ⟨e8, hq8⟩ := Prod.mk.inj hq7
                clear hq7
                obtain ⟨e9, hq9⟩ := Prod.mk.inj hq8
                clear hq8
                obtain ⟨e10, hq10⟩ := Prod.mk.inj hq9
                clear hq9
                obtain ⟨e11, hq11⟩ := Prod.mk.inj hq10
                clear hq10
                obtain ⟨e12, hq12⟩ := Prod.mk.inj hq11
                clear hq11
                obtain ⟨e13, hq13⟩ := Prod.mk.inj hq12
                clear hq12
                obtain ⟨e14, hq14⟩ := Prod.mk.inj hq13
                clear hq13
                obtain ⟨e15, hq15⟩ := Prod.mk.inj hq14
                clear hq14
                obtain ⟨e16, hq16⟩ := Prod.mk.inj hq15
                clear hq15
                obtain ⟨e17, hq17⟩ := Prod.mk.inj hq16
                clear hq16
                subst e0
                subst e1
                subst e2
                subst e3
                subst e4
                subst e5
                subst e6
                subst e7
                subst e8
                subst e9
                subst e10
                subst e11
                subst e12
                subst e13
                subst e14
                subst e15
                subst e16
                subst e17
                subst hq17
                exact k_retI hx hb hr hlocks hP hD hS dX6_send_255
            · have h := (if_neg cc_26).symm.trans h
              refine lv_aload_n hx hb dX6_send_149 rfl (lv_at hl 0 rfl) ?_
              refine va_get (D := D) (ci := 6) (v := .ref qm_keptNodes) (C := RX6) (T := TX6) (N := 29) hx hb hu k_iX6 hown hK hP 0 rfl rfl 23 (by decide) (hu _ u_741) (fun _ h9 => h9) rfl dX6_send_150 ?_
              refine lv_iload hx hb dX6_send_153 (lv_at hl 1 rfl) ?_
              refine lv_aload_n hx hb dX6_send_155 rfl (lv_at hl 0 rfl) ?_
              refine va_get (D := D) (ci := 6) (v := .ref qm_nodes) (C := RX6) (T := TX6) (N := 29) hx hb hu k_iX6 hown hK hP 0 rfl rfl 11 (by decide) (hu _ u_729) (fun _ h9 => h9) rfl dX6_send_156 ?_
              refine lv_iload hx hb dX6_send_159 (lv_at hl 1 rfl) ?_
              obtain ⟨hin_29, h⟩ := ob_if h
              have hin_29 := inb_in hin_29
              refine va_iald (D := D) hx hb hK hP 6 0 rfl rfl hin_29 dX6_send_161 ?_
              refine va_iast (D := D) hx hb hK hP hD hS 10 0 rfl rfl hin_29 dX6_send_162 (fun H locs hP hD hS => ?_)
              have hP : va_P D vwCl [(qm, .inr (6, [.ref qm_w, .ref qm_past, .int m_pastMany, .ref qm_images, .int m_filled, .ref qm_text, .int m_length, .ref qm_may, .ref qm_least, .ref qm_isCarried, .ref qm_list, .ref qm_nodes, .int m_listMany, .int m_went, .int m_cost, .int m_cause, .int m_looks, .int m_isSent, .int m_isOld, .ref qm_kept, .ref qm_keptLow, .ref qm_keptHigh, .int m_keptMany, .ref qm_keptNodes, .ref qm_numbers, .ref qm_sums, .ref qm_commands, .int m_commandMany, .ref qm_held])), (qm_w, .inl (cI, 93, .inl m_w)), (qm_may, .inl (cZ, 18, .inl m_may)), (qm_least, .inl (cI, 9, .inl m_least)), (qm_isCarried, .inl (cZ, 18, .inl m_isCarried)), (qm_list, .inl (cI, 18, .inl m_list)), (qm_nodes, .inl (cI, 41, .inl m_nodes)), (qm_kept, .inl (cI, 18, .inl m_kept)), (qm_keptLow, .inl (cI, 18, .inl m_keptLow)), (qm_keptHigh, .inl (cI, 18, .inl m_keptHigh)), (qm_keptNodes, .inl (cI, 41, .inl (upd m_keptNodes (Int32.toNatClampNeg x4) (m_nodes (Int32.toNatClampNeg x4))))), (qm_numbers, .inl (cI, 6, .inl m_numbers))] H := hP
              have hD : va_D A [(qm, .inr (6, [.ref qm_w, .ref qm_past, .int m_pastMany, .ref qm_images, .int m_filled, .ref qm_text, .int m_length, .ref qm_may, .ref qm_least, .ref qm_isCarried, .ref qm_list, .ref qm_nodes, .int m_listMany, .int m_went, .int m_cost, .int m_cause, .int m_looks, .int m_isSent, .int m_isOld, .ref qm_kept, .ref qm_keptLow, .ref qm_keptHigh, .int m_keptMany, .ref qm_keptNodes, .ref qm_numbers, .ref qm_sums, .ref qm_commands, .int m_commandMany, .ref qm_held])), (qm_w, .inl (cI, 93, .inl m_w)), (qm_may, .inl (cZ, 18, .inl m_may)), (qm_least, .inl (cI, 9, .inl m_least)), (qm_isCarried, .inl (cZ, 18, .inl m_isCarried)), (qm_list, .inl (cI, 18, .inl m_list)), (qm_nodes, .inl (cI, 41, .inl m_nodes)), (qm_kept, .inl (cI, 18, .inl m_kept)), (qm_keptLow, .inl (cI, 18, .inl m_keptLow)), (qm_keptHigh, .inl (cI, 18, .inl m_keptHigh)), (qm_keptNodes, .inl (cI, 41, .inl (upd m_keptNodes (Int32.toNatClampNeg x4) (m_nodes (Int32.toNatClampNeg x4))))), (qm_numbers, .inl (cI, 6, .inl m_numbers))] := hD
              refine lv_iinc (v := (x4 + (1 : Int32))) (lv' := [(4, .int (x4 + (1 : Int32))), (0, .ref qm)]) hx hb dX6_send_163 hl (k := 1) rfl rfl (by decide) rfl (fun ls hl => ?_)
              refine lv_goto (tgt := 140) hx hb dX6_send_166 (by decide) ?_
              exact ih140 (x4 + (1 : Int32)) m_w m_may m_least m_isCarried m_list m_nodes m_listMany m_went m_cost m_cause m_looks m_isSent m_isOld m_kept m_keptLow m_keptHigh m_keptMany (upd m_keptNodes (Int32.toNatClampNeg x4) (m_nodes (Int32.toNatClampNeg x4))) m_numbers _ _ _ hP hD hS (lv_sub hl [1, 0] rfl) h
        refine lv_iload hx hb dX6_send_70 (lv_at hl 1 rfl) ?_
        refine lv_aload_n hx hb dX6_send_72 rfl (lv_at hl 0 rfl) ?_
        refine va_get (D := D) (ci := 6) (v := .int m_listMany) (C := RX6) (T := TX6) (N := 29) hx hb hu k_iX6 hown hK hP 0 rfl rfl 12 (by decide) (hu _ u_730) (fun _ h9 => h9) rfl dX6_send_73 ?_
        refine lv_icmp_ge (tgt := 137) hx hb dX6_send_76 (by decide) (fun cc_20 => ?_) (fun cc_20 => ?_)
        · have h := (if_pos cc_20).symm.trans h
          refine lv_iconst (v := (0 : Int32)) hx hb dX6_send_137 (by decide) ?_
          refine lv_istore (lv' := [(4, .int (0 : Int32)), (0, .ref qm)]) hx hb dX6_send_138 hl (by decide) rfl (fun ls hl => ?_)
          exact w140 1000 (0 : Int32) m_w m_may m_least m_isCarried m_list m_nodes m_listMany m_went m_cost m_cause m_looks m_isSent m_isOld m_kept m_keptLow m_keptHigh m_keptMany m_keptNodes m_numbers _ _ _ hP hD hS (lv_sub hl [1, 0] rfl) h
        · have h := (if_neg cc_20).symm.trans h
          refine lv_aload_n hx hb dX6_send_79 rfl (lv_at hl 0 rfl) ?_
          refine va_get (D := D) (ci := 6) (v := .ref qm_kept) (C := RX6) (T := TX6) (N := 29) hx hb hu k_iX6 hown hK hP 0 rfl rfl 19 (by decide) (hu _ u_737) (fun _ h9 => h9) rfl dX6_send_80 ?_
          refine lv_iload hx hb dX6_send_83 (lv_at hl 1 rfl) ?_
          refine lv_aload_n hx hb dX6_send_85 rfl (lv_at hl 0 rfl) ?_
          refine va_get (D := D) (ci := 6) (v := .ref qm_list) (C := RX6) (T := TX6) (N := 29) hx hb hu k_iX6 hown hK hP 0 rfl rfl 10 (by decide) (hu _ u_728) (fun _ h9 => h9) rfl dX6_send_86 ?_
          refine lv_iload hx hb dX6_send_89 (lv_at hl 1 rfl) ?_
          obtain ⟨hin_21, h⟩ := ob_if h
          have hin_21 := inb_in hin_21
          refine va_iald (D := D) hx hb hK hP 5 0 rfl rfl hin_21 dX6_send_91 ?_
          refine va_iast (D := D) hx hb hK hP hD hS 7 0 rfl rfl hin_21 dX6_send_92 (fun H locs hP hD hS => ?_)
          have hP : va_P D vwCl [(qm, .inr (6, [.ref qm_w, .ref qm_past, .int m_pastMany, .ref qm_images, .int m_filled, .ref qm_text, .int m_length, .ref qm_may, .ref qm_least, .ref qm_isCarried, .ref qm_list, .ref qm_nodes, .int m_listMany, .int m_went, .int m_cost, .int m_cause, .int m_looks, .int m_isSent, .int m_isOld, .ref qm_kept, .ref qm_keptLow, .ref qm_keptHigh, .int m_keptMany, .ref qm_keptNodes, .ref qm_numbers, .ref qm_sums, .ref qm_commands, .int m_commandMany, .ref qm_held])), (qm_w, .inl (cI, 93, .inl m_w)), (qm_may, .inl (cZ, 18, .inl m_may)), (qm_least, .inl (cI, 9, .inl m_least)), (qm_isCarried, .inl (cZ, 18, .inl m_isCarried)), (qm_list, .inl (cI, 18, .inl m_list)), (qm_nodes, .inl (cI, 41, .inl m_nodes)), (qm_kept, .inl (cI, 18, .inl (upd m_kept (Int32.toNatClampNeg x4) (m_list (Int32.toNatClampNeg x4))))), (qm_keptLow, .inl (cI, 18, .inl m_keptLow)), (qm_keptHigh, .inl (cI, 18, .inl m_keptHigh)), (qm_keptNodes, .inl (cI, 41, .inl m_keptNodes)), (qm_numbers, .inl (cI, 6, .inl m_numbers))] H := hP
          have hD : va_D A [(qm, .inr (6, [.ref qm_w, .ref qm_past, .int m_pastMany, .ref qm_images, .int m_filled, .ref qm_text, .int m_length, .ref qm_may, .ref qm_least, .ref qm_isCarried, .ref qm_list, .ref qm_nodes, .int m_listMany, .int m_went, .int m_cost, .int m_cause, .int m_looks, .int m_isSent, .int m_isOld, .ref qm_kept, .ref qm_keptLow, .ref qm_keptHigh, .int m_keptMany, .ref qm_keptNodes, .ref qm_numbers, .ref qm_sums, .ref qm_commands, .int m_commandMany, .ref qm_held])), (qm_w, .inl (cI, 93, .inl m_w)), (qm_may, .inl (cZ, 18, .inl m_may)), (qm_least, .inl (cI, 9, .inl m_least)), (qm_isCarried, .inl (cZ, 18, .inl m_isCarried)), (qm_list, .inl (cI, 18, .inl m_list)), (qm_nodes, .inl (cI, 41, .inl m_nodes)), (qm_kept, .inl (cI, 18, .inl (upd m_kept (Int32.toNatClampNeg x4) (m_list (Int32.toNatClampNeg x4))))), (qm_keptLow, .inl (cI, 18, .inl m_keptLow)), (qm_keptHigh, .inl (cI, 18, .inl m_keptHigh)), (qm_keptNodes, .inl (cI, 41, .inl m_keptNodes)), (qm_numbers, .inl (cI, 6, .inl m_numbers))] := hD
          refine lv_aload_n hx hb dX6_send_93 rfl (lv_at hl 0 rfl) ?_
          refine va_get (D := D) (ci := 6) (v := .ref qm_keptLow) (C := RX6) (T := TX6) (N := 29) hx hb hu k_iX6 hown hK hP 0 rfl rfl 20 (by decide) (hu _ u_738) (fun _ h9 => h9) rfl dX6_send_94 ?_
          refine lv_iload hx hb dX6_send_97 (lv_at hl 1 rfl) ?_
          refine lv_aload_n hx hb dX6_send_99 rfl (lv_at hl 0 rfl) ?_
          refine lv_aload_n hx hb dX6_send_100 rfl (lv_at hl 0 rfl) ?_
          refine va_get (D := D) (ci := 6) (v := .ref qm_list) (C := RX6) (T := TX6) (N := 29) hx hb hu k_iX6 hown hK hP 0 rfl rfl 10 (by decide) (hu _ u_728) (fun _ h9 => h9) rfl dX6_send_101 ?_
          refine lv_iload hx hb dX6_send_104 (lv_at hl 1 rfl) ?_
          refine va_iald (D := D) hx hb hK hP 5 0 rfl rfl hin_21 dX6_send_106 ?_
          refine lv_iconst (v := (0 : Int32)) hx hb dX6_send_107 (by decide) ?_
          obtain ⟨r_22, hc_23, h⟩ := ob_bind h
          refine k_callVIr (qb := 0) [0, 1] (As := [.int (m_list (Int32.toNatClampNeg x4)), .int (0 : Int32)]) (rest := [.int x4, .ref qm_keptLow]) ⟨hx, hb, hml, hown, hts⟩ hT hZ hA hP hD hS (c_X6_of l D cI cZ cN aK aV qm qm_w qm_past qm_images qm_text qm_may qm_least qm_isCarried qm_list qm_nodes qm_kept qm_keptLow qm_keptHigh qm_keptNodes qm_numbers qm_sums qm_commands qm_held m_w m_pastMany m_filled m_length m_listMany m_went m_cost m_cause m_looks m_isSent m_isOld m_keptMany m_commandMany (m_list (Int32.toNatClampNeg x4)) (0 : Int32) r_22 hc_23) ⟨callB_of 2 hts (k_good u_840) rfl rfl rfl (hu _ u_51) (hu _ u_837) (by decide +kernel) ⟨Nat.le_of_ble_eq_true rfl, Nat.le_of_ble_eq_true rfl⟩, hu _ u_839, hu _ u_23⟩ rfl rfl rfl (by decide) rfl hl.1 rfl (Nat.le_of_ble_eq_true rfl) dX6_send_108 (fun H locs hP hD hS => ?_)
          refine va_iast (D := D) hx hb hK hP hD hS 8 0 rfl rfl hin_21 dX6_send_111 (fun H locs hP hD hS => ?_)
          have hP : va_P D vwCl [(qm, .inr (6, [.ref qm_w, .ref qm_past, .int m_pastMany, .ref qm_images, .int m_filled, .ref qm_text, .int m_length, .ref qm_may, .ref qm_least, .ref qm_isCarried, .ref qm_list, .ref qm_nodes, .int m_listMany, .int m_went, .int m_cost, .int m_cause, .int m_looks, .int m_isSent, .int m_isOld, .ref qm_kept, .ref qm_keptLow, .ref qm_keptHigh, .int m_keptMany, .ref qm_keptNodes, .ref qm_numbers, .ref qm_sums, .ref qm_commands, .int m_commandMany, .ref qm_held])), (qm_w, .inl (cI, 93, .inl m_w)), (qm_may, .inl (cZ, 18, .inl m_may)), (qm_least, .inl (cI, 9, .inl m_least)), (qm_isCarried, .inl (cZ, 18, .inl m_isCarried)), (qm_list, .inl (cI, 18, .inl m_list)), (qm_nodes, .inl (cI, 41, .inl m_nodes)), (qm_kept, .inl (cI, 18, .inl (upd m_kept (Int32.toNatClampNeg x4) (m_list (Int32.toNatClampNeg x4))))), (qm_keptLow, .inl (cI, 18, .inl (upd m_keptLow (Int32.toNatClampNeg x4) r_22))), (qm_keptHigh, .inl (cI, 18, .inl m_keptHigh)), (qm_keptNodes, .inl (cI, 41, .inl m_keptNodes)), (qm_numbers, .inl (cI, 6, .inl m_numbers))] H := hP
          have hD : va_D A [(qm, .inr (6, [.ref qm_w, .ref qm_past, .int m_pastMany, .ref qm_images, .int m_filled, .ref qm_text, .int m_length, .ref qm_may, .ref qm_least, .ref qm_isCarried, .ref qm_list, .ref qm_nodes, .int m_listMany, .int m_went, .int m_cost, .int m_cause, .int m_looks, .int m_isSent, .int m_isOld, .ref qm_kept, .ref qm_keptLow, .ref qm_keptHigh, .int m_keptMany, .ref qm_keptNodes, .ref qm_numbers, .ref qm_sums, .ref qm_commands, .int m_commandMany, .ref qm_held])), (qm_w, .inl (cI, 93, .inl m_w)), (qm_may, .inl (cZ, 18, .inl m_may)), (qm_least, .inl (cI, 9, .inl m_least)), (qm_isCarried, .inl (cZ, 18, .inl m_isCarried)), (qm_list, .inl (cI, 18, .inl m_list)), (qm_nodes, .inl (cI, 41, .inl m_nodes)), (qm_kept, .inl (cI, 18, .inl (upd m_kept (Int32.toNatClampNeg x4) (m_list (Int32.toNatClampNeg x4))))), (qm_keptLow, .inl (cI, 18, .inl (upd m_keptLow (Int32.toNatClampNeg x4) r_22))), (qm_keptHigh, .inl (cI, 18, .inl m_keptHigh)), (qm_keptNodes, .inl (cI, 41, .inl m_keptNodes)), (qm_numbers, .inl (cI, 6, .inl m_numbers))] := hD
          refine lv_aload_n hx hb dX6_send_112 rfl (lv_at hl 0 rfl) ?_
          refine va_get (D := D) (ci := 6) (v := .ref qm_keptHigh) (C := RX6) (T := TX6) (N := 29) hx hb hu k_iX6 hown hK hP 0 rfl rfl 21 (by decide) (hu _ u_739) (fun _ h9 => h9) rfl dX6_send_113 ?_
          refine lv_iload hx hb dX6_send_116 (lv_at hl 1 rfl) ?_
          refine lv_aload_n hx hb dX6_send_118 rfl (lv_at hl 0 rfl) ?_
          refine lv_aload_n hx hb dX6_send_119 rfl (lv_at hl 0 rfl) ?_
          refine va_get (D := D) (ci := 6) (v := .ref qm_list) (C := RX6) (T := TX6) (N := 29) hx hb hu k_iX6 hown hK hP 0 rfl rfl 10 (by decide) (hu _ u_728) (fun _ h9 => h9) rfl dX6_send_120 ?_
          refine lv_iload hx hb dX6_send_123 (lv_at hl 1 rfl) ?_
          refine va_iald (D := D) hx hb hK hP 5 0 rfl rfl hin_21 dX6_send_125 ?_
          refine lv_iconst (v := (1 : Int32)) hx hb dX6_send_126 (by decide) ?_
          obtain ⟨r_24, hc_25, h⟩ := ob_bind h
          refine k_callVIr (qb := 0) [0, 1] (As := [.int (m_list (Int32.toNatClampNeg x4)), .int (1 : Int32)]) (rest := [.int x4, .ref qm_keptHigh]) ⟨hx, hb, hml, hown, hts⟩ hT hZ hA hP hD hS (c_X6_of l D cI cZ cN aK aV qm qm_w qm_past qm_images qm_text qm_may qm_least qm_isCarried qm_list qm_nodes qm_kept qm_keptLow qm_keptHigh qm_keptNodes qm_numbers qm_sums qm_commands qm_held m_w m_pastMany m_filled m_length m_listMany m_went m_cost m_cause m_looks m_isSent m_isOld m_keptMany m_commandMany (m_list (Int32.toNatClampNeg x4)) (1 : Int32) r_24 hc_25) ⟨callB_of 2 hts (k_good u_840) rfl rfl rfl (hu _ u_51) (hu _ u_837) (by decide +kernel) ⟨Nat.le_of_ble_eq_true rfl, Nat.le_of_ble_eq_true rfl⟩, hu _ u_839, hu _ u_23⟩ rfl rfl rfl (by decide) rfl hl.1 rfl (Nat.le_of_ble_eq_true rfl) dX6_send_127 (fun H locs hP hD hS => ?_)
          refine va_iast (D := D) hx hb hK hP hD hS 9 0 rfl rfl hin_21 dX6_send_130 (fun H locs hP hD hS => ?_)
          have hP : va_P D vwCl [(qm, .inr (6, [.ref qm_w, .ref qm_past, .int m_pastMany, .ref qm_images, .int m_filled, .ref qm_text, .int m_length, .ref qm_may, .ref qm_least, .ref qm_isCarried, .ref qm_list, .ref qm_nodes, .int m_listMany, .int m_went, .int m_cost, .int m_cause, .int m_looks, .int m_isSent, .int m_isOld, .ref qm_kept, .ref qm_keptLow, .ref qm_keptHigh, .int m_keptMany, .ref qm_keptNodes, .ref qm_numbers, .ref qm_sums, .ref qm_commands, .int m_commandMany, .ref qm_held])), (qm_w, .inl (cI, 93, .inl m_w)), (qm_may, .inl (cZ, 18, .inl m_may)), (qm_least, .inl (cI, 9, .inl m_least)), (qm_isCarried, .inl (cZ, 18, .inl m_isCarried)), (qm_list, .inl (cI, 18, .inl m_list)), (qm_nodes, .inl (cI, 41, .inl m_nodes)), (qm_kept, .inl (cI, 18, .inl (upd m_kept (Int32.toNatClampNeg x4) (m_list (Int32.toNatClampNeg x4))))), (qm_keptLow, .inl (cI, 18, .inl (upd m_keptLow (Int32.toNatClampNeg x4) r_22))), (qm_keptHigh, .inl (cI, 18, .inl (upd m_keptHigh (Int32.toNatClampNeg x4) r_24))), (qm_keptNodes, .inl (cI, 41, .inl m_keptNodes)), (qm_numbers, .inl (cI, 6, .inl m_numbers))] H := hP
          have hD : va_D A [(qm, .inr (6, [.ref qm_w, .ref qm_past, .int m_pastMany, .ref qm_images, .int m_filled, .ref qm_text, .int m_length, .ref qm_may, .ref qm_least, .ref qm_isCarried, .ref qm_list, .ref qm_nodes, .int m_listMany, .int m_went, .int m_cost, .int m_cause, .int m_looks, .int m_isSent, .int m_isOld, .ref qm_kept, .ref qm_keptLow, .ref qm_keptHigh, .int m_keptMany, .ref qm_keptNodes, .ref qm_numbers, .ref qm_sums, .ref qm_commands, .int m_commandMany, .ref qm_held])), (qm_w, .inl (cI, 93, .inl m_w)), (qm_may, .inl (cZ, 18, .inl m_may)), (qm_least, .inl (cI, 9, .inl m_least)), (qm_isCarried, .inl (cZ, 18, .inl m_isCarried)), (qm_list, .inl (cI, 18, .inl m_list)), (qm_nodes, .inl (cI, 41, .inl m_nodes)), (qm_kept, .inl (cI, 18, .inl (upd m_kept (Int32.toNatClampNeg x4) (m_list (Int32.toNatClampNeg x4))))), (qm_keptLow, .inl (cI, 18, .inl (upd m_keptLow (Int32.toNatClampNeg x4) r_22))), (qm_keptHigh, .inl (cI, 18, .inl (upd m_keptHigh (Int32.toNatClampNeg x4) r_24))), (qm_keptNodes, .inl (cI, 41, .inl m_keptNodes)), (qm_numbers, .inl (cI, 6, .inl m_numbers))] := hD
          refine lv_iinc (v := (x4 + (1 : Int32))) (lv' := [(4, .int (x4 + (1 : Int32))), (0, .ref qm)]) hx hb dX6_send_131 hl (k := 1) rfl rfl (by decide) rfl (fun ls hl => ?_)
          refine lv_goto (tgt := 70) hx hb dX6_send_134 (by decide) ?_
          exact ih70 (x4 + (1 : Int32)) m_w m_may m_least m_isCarried m_list m_nodes m_listMany m_went m_cost m_cause m_looks m_isSent m_isOld (upd m_kept (Int32.toNatClampNeg x4) (m_list (Int32.toNatClampNeg x4))) (upd m_keptLow (Int32.toNatClampNeg x4) r_22) (upd m_keptHigh (Int32.toNatClampNeg x4) r_24) m_keptMany m_keptNodes m_numbers _ _ _ hP hD hS (lv_sub hl [1, 0] rfl) h
    refine lv_aload_n hx hb dX6_send_40 rfl (lv_at hl 0 rfl) ?_
    refine va_get (D := D) (ci := 6) (v := .ref qm_w) (C := RX6) (T := TX6) (N := 29) hx hb hu k_iX6 hown hK hP 0 rfl rfl 0 (by decide) (hu _ u_718) (fun _ h9 => h9) rfl dX6_send_41 ?_
    refine lv_iconst (v := (2 : Int32)) hx hb dX6_send_44 (by decide) ?_
    refine va_iald (D := D) hx hb hK hP 1 0 rfl rfl (inb_in (by decide)) dX6_send_45 ?_
    obtain ⟨⟨o_9, o_10, o_11, o_12, o_13, o_14, o_15, o_16, o_17, o_18⟩, hc_19, h⟩ := ob_bind h
    dsimp only at h
    refine k_callVV (qb := 0) [0, 1, 2, 3, 4, 5, 6] [0, 2, 3, 4, 5, 6] [0, 2, 3, 4, 5, 6] [(qm, .inr (6, [.ref qm_w, .ref qm_past, .int m_pastMany, .ref qm_images, .int m_filled, .ref qm_text, .int m_length, .ref qm_may, .ref qm_least, .ref qm_isCarried, .ref qm_list, .ref qm_nodes, .int o_14, .int o_15, .int o_16, .int o_17, .int o_18, .int m_isSent, .int m_isOld, .ref qm_kept, .ref qm_keptLow, .ref qm_keptHigh, .int m_keptMany, .ref qm_keptNodes, .ref qm_numbers, .ref qm_sums, .ref qm_commands, .int m_commandMany, .ref qm_held])), (qm_may, .inl (cZ, 18, .inl o_9)), (qm_least, .inl (cI, 9, .inl o_10)), (qm_isCarried, .inl (cZ, 18, .inl o_11)), (qm_list, .inl (cI, 18, .inl o_12)), (qm_nodes, .inl (cI, 41, .inl o_13))] (As := [.int s2, .int s1, .int s0, .int (m_w (Int32.toNatClampNeg (2 : Int32)))]) (rest := []) ⟨hx, hb, hml, hown, hts⟩ hT hZ hA hP hD hS (c_X6_runLetter l D cI cZ cN aK aV qm qm_w qm_past qm_images qm_text qm_may qm_least qm_isCarried qm_list qm_nodes qm_kept qm_keptLow qm_keptHigh qm_keptNodes qm_numbers qm_sums qm_commands qm_held m_w m_pastMany m_filled m_length m_may m_least m_isCarried m_list m_nodes m_listMany m_went m_cost m_cause m_looks m_isSent m_isOld m_keptMany m_commandMany s2 s1 s0 (m_w (Int32.toNatClampNeg (2 : Int32))) o_9 o_10 o_11 o_12 o_13 o_14 o_15 o_16 o_17 o_18 hc_19) ⟨callB_of 4 hts (k_good u_937) rfl rfl rfl (hu _ u_51) (hu _ u_934) (by decide +kernel) ⟨Nat.le_of_ble_eq_true rfl, Nat.le_of_ble_eq_true rfl⟩, hu _ u_936, hu _ u_35⟩ rfl rfl rfl (by decide) (by decide) (by decide) rfl rfl rfl rfl hl.1 rfl (Nat.le_of_ble_eq_true rfl) dX6_send_46 (fun H locs hP hD hS => ?_)
    have hP : va_P D vwCl [(qm, .inr (6, [.ref qm_w, .ref qm_past, .int m_pastMany, .ref qm_images, .int m_filled, .ref qm_text, .int m_length, .ref qm_may, .ref qm_least, .ref qm_isCarried, .ref qm_list, .ref qm_nodes, .int o_14, .int o_15, .int o_16, .int o_17, .int o_18, .int m_isSent, .int m_isOld, .ref qm_kept, .ref qm_keptLow, .ref qm_keptHigh, .int m_keptMany, .ref qm_keptNodes, .ref qm_numbers, .ref qm_sums, .ref qm_commands, .int m_commandMany, .ref qm_held])), (qm_w, .inl (cI, 93, .inl m_w)), (qm_may, .inl (cZ, 18, .inl o_9)), (qm_least, .inl (cI, 9, .inl o_10)), (qm_isCarried, .inl (cZ, 18, .inl o_11)), (qm_list, .inl (cI, 18, .inl o_12)), (qm_nodes, .inl (cI, 41, .inl o_13)), (qm_kept, .inl (cI, 18, .inl m_kept)), (qm_keptLow, .inl (cI, 18, .inl m_keptLow)), (qm_keptHigh, .inl (cI, 18, .inl m_keptHigh)), (qm_keptNodes, .inl (cI, 41, .inl m_keptNodes)), (qm_numbers, .inl (cI, 6, .inl m_numbers))] H := hP
    have hD : va_D A [(qm, .inr (6, [.ref qm_w, .ref qm_past, .int m_pastMany, .ref qm_images, .int m_filled, .ref qm_text, .int m_length, .ref qm_may, .ref qm_least, .ref qm_isCarried, .ref qm_list, .ref qm_nodes, .int o_14, .int o_15, .int o_16, .int o_17, .int o_18, .int m_isSent, .int m_isOld, .ref qm_kept, .ref qm_keptLow, .ref qm_keptHigh, .int m_keptMany, .ref qm_keptNodes, .ref qm_numbers, .ref qm_sums, .ref qm_commands, .int m_commandMany, .ref qm_held])), (qm_w, .inl (cI, 93, .inl m_w)), (qm_may, .inl (cZ, 18, .inl o_9)), (qm_least, .inl (cI, 9, .inl o_10)), (qm_isCarried, .inl (cZ, 18, .inl o_11)), (qm_list, .inl (cI, 18, .inl o_12)), (qm_nodes, .inl (cI, 41, .inl o_13)), (qm_kept, .inl (cI, 18, .inl m_kept)), (qm_keptLow, .inl (cI, 18, .inl m_keptLow)), (qm_keptHigh, .inl (cI, 18, .inl m_keptHigh)), (qm_keptNodes, .inl (cI, 41, .inl m_keptNodes)), (qm_numbers, .inl (cI, 6, .inl m_numbers))] := hD
    refine lv_aload_n hx hb dX6_send_49 rfl (lv_at hl 0 rfl) ?_
    refine lv_iconst (v := (1 : Int32)) hx hb dX6_send_50 (by decide) ?_
    refine va_put (D := D) (ci := 6) (v := .int (1 : Int32)) (ty := .boolean) (C := RX6) (T := TX6) (N := 29) hx hb hu k_iX6 tyX6 tyX6_ok nmX6 hown hK hP hD hS 0 rfl rfl 17 (by decide) (hu _ u_735) (fun _ h9 => h9) rfl (by decide +kernel) rfl rfl (Nat.le_of_ble_eq_true rfl) dX6_send_51 (fun H locs hP hD hS => ?_)
    have hP : va_P D vwCl [(qm, .inr (6, [.ref qm_w, .ref qm_past, .int m_pastMany, .ref qm_images, .int m_filled, .ref qm_text, .int m_length, .ref qm_may, .ref qm_least, .ref qm_isCarried, .ref qm_list, .ref qm_nodes, .int o_14, .int o_15, .int o_16, .int o_17, .int o_18, .int (1 : Int32), .int m_isOld, .ref qm_kept, .ref qm_keptLow, .ref qm_keptHigh, .int m_keptMany, .ref qm_keptNodes, .ref qm_numbers, .ref qm_sums, .ref qm_commands, .int m_commandMany, .ref qm_held])), (qm_w, .inl (cI, 93, .inl m_w)), (qm_may, .inl (cZ, 18, .inl o_9)), (qm_least, .inl (cI, 9, .inl o_10)), (qm_isCarried, .inl (cZ, 18, .inl o_11)), (qm_list, .inl (cI, 18, .inl o_12)), (qm_nodes, .inl (cI, 41, .inl o_13)), (qm_kept, .inl (cI, 18, .inl m_kept)), (qm_keptLow, .inl (cI, 18, .inl m_keptLow)), (qm_keptHigh, .inl (cI, 18, .inl m_keptHigh)), (qm_keptNodes, .inl (cI, 41, .inl m_keptNodes)), (qm_numbers, .inl (cI, 6, .inl m_numbers))] H := hP
    have hD : va_D A [(qm, .inr (6, [.ref qm_w, .ref qm_past, .int m_pastMany, .ref qm_images, .int m_filled, .ref qm_text, .int m_length, .ref qm_may, .ref qm_least, .ref qm_isCarried, .ref qm_list, .ref qm_nodes, .int o_14, .int o_15, .int o_16, .int o_17, .int o_18, .int (1 : Int32), .int m_isOld, .ref qm_kept, .ref qm_keptLow, .ref qm_keptHigh, .int m_keptMany, .ref qm_keptNodes, .ref qm_numbers, .ref qm_sums, .ref qm_commands, .int m_commandMany, .ref qm_held])), (qm_w, .inl (cI, 93, .inl m_w)), (qm_may, .inl (cZ, 18, .inl o_9)), (qm_least, .inl (cI, 9, .inl o_10)), (qm_isCarried, .inl (cZ, 18, .inl o_11)), (qm_list, .inl (cI, 18, .inl o_12)), (qm_nodes, .inl (cI, 41, .inl o_13)), (qm_kept, .inl (cI, 18, .inl m_kept)), (qm_keptLow, .inl (cI, 18, .inl m_keptLow)), (qm_keptHigh, .inl (cI, 18, .inl m_keptHigh)), (qm_keptNodes, .inl (cI, 41, .inl m_keptNodes)), (qm_numbers, .inl (cI, 6, .inl m_numbers))] := hD
    refine lv_aload_n hx hb dX6_send_54 rfl (lv_at hl 0 rfl) ?_
    refine lv_iconst (v := (0 : Int32)) hx hb dX6_send_55 (by decide) ?_
    refine va_put (D := D) (ci := 6) (v := .int (0 : Int32)) (ty := .boolean) (C := RX6) (T := TX6) (N := 29) hx hb hu k_iX6 tyX6 tyX6_ok nmX6 hown hK hP hD hS 0 rfl rfl 18 (by decide) (hu _ u_736) (fun _ h9 => h9) rfl (by decide +kernel) rfl rfl (Nat.le_of_ble_eq_true rfl) dX6_send_56 (fun H locs hP hD hS => ?_)
    have hP : va_P D vwCl [(qm, .inr (6, [.ref qm_w, .ref qm_past, .int m_pastMany, .ref qm_images, .int m_filled, .ref qm_text, .int m_length, .ref qm_may, .ref qm_least, .ref qm_isCarried, .ref qm_list, .ref qm_nodes, .int o_14, .int o_15, .int o_16, .int o_17, .int o_18, .int (1 : Int32), .int (0 : Int32), .ref qm_kept, .ref qm_keptLow, .ref qm_keptHigh, .int m_keptMany, .ref qm_keptNodes, .ref qm_numbers, .ref qm_sums, .ref qm_commands, .int m_commandMany, .ref qm_held])), (qm_w, .inl (cI, 93, .inl m_w)), (qm_may, .inl (cZ, 18, .inl o_9)), (qm_least, .inl (cI, 9, .inl o_10)), (qm_isCarried, .inl (cZ, 18, .inl o_11)), (qm_list, .inl (cI, 18, .inl o_12)), (qm_nodes, .inl (cI, 41, .inl o_13)), (qm_kept, .inl (cI, 18, .inl m_kept)), (qm_keptLow, .inl (cI, 18, .inl m_keptLow)), (qm_keptHigh, .inl (cI, 18, .inl m_keptHigh)), (qm_keptNodes, .inl (cI, 41, .inl m_keptNodes)), (qm_numbers, .inl (cI, 6, .inl m_numbers))] H := hP
    have hD : va_D A [(qm, .inr (6, [.ref qm_w, .ref qm_past, .int m_pastMany, .ref qm_images, .int m_filled, .ref qm_text, .int m_length, .ref qm_may, .ref qm_least, .ref qm_isCarried, .ref qm_list, .ref qm_nodes, .int o_14, .int o_15, .int o_16, .int o_17, .int o_18, .int (1 : Int32), .int (0 : Int32), .ref qm_kept, .ref qm_keptLow, .ref qm_keptHigh, .int m_keptMany, .ref qm_keptNodes, .ref qm_numbers, .ref qm_sums, .ref qm_commands, .int m_commandMany, .ref qm_held])), (qm_w, .inl (cI, 93, .inl m_w)), (qm_may, .inl (cZ, 18, .inl o_9)), (qm_least, .inl (cI, 9, .inl o_10)), (qm_isCarried, .inl (cZ, 18, .inl o_11)), (qm_list, .inl (cI, 18, .inl o_12)), (qm_nodes, .inl (cI, 41, .inl o_13)), (qm_kept, .inl (cI, 18, .inl m_kept)), (qm_keptLow, .inl (cI, 18, .inl m_keptLow)), (qm_keptHigh, .inl (cI, 18, .inl m_keptHigh)), (qm_keptNodes, .inl (cI, 41, .inl m_keptNodes)), (qm_numbers, .inl (cI, 6, .inl m_numbers))] := hD
    refine lv_aload_n hx hb dX6_send_59 rfl (lv_at hl 0 rfl) ?_
    refine lv_aload_n hx hb dX6_send_60 rfl (lv_at hl 0 rfl) ?_
    refine va_get (D := D) (ci := 6) (v := .int o_14) (C := RX6) (T := TX6) (N := 29) hx hb hu k_iX6 hown hK hP 0 rfl rfl 12 (by decide) (hu _ u_730) (fun _ h9 => h9) rfl dX6_send_61 ?_
    refine va_put (D := D) (ci := 6) (v := .int o_14) (ty := .int) (C := RX6) (T := TX6) (N := 29) hx hb hu k_iX6 tyX6 tyX6_ok nmX6 hown hK hP hD hS 0 rfl rfl 22 (by decide) (hu _ u_740) (fun _ h9 => h9) rfl (by decide +kernel) rfl rfl (Nat.le_of_ble_eq_true rfl) dX6_send_64 (fun H locs hP hD hS => ?_)
    have hP : va_P D vwCl [(qm, .inr (6, [.ref qm_w, .ref qm_past, .int m_pastMany, .ref qm_images, .int m_filled, .ref qm_text, .int m_length, .ref qm_may, .ref qm_least, .ref qm_isCarried, .ref qm_list, .ref qm_nodes, .int o_14, .int o_15, .int o_16, .int o_17, .int o_18, .int (1 : Int32), .int (0 : Int32), .ref qm_kept, .ref qm_keptLow, .ref qm_keptHigh, .int o_14, .ref qm_keptNodes, .ref qm_numbers, .ref qm_sums, .ref qm_commands, .int m_commandMany, .ref qm_held])), (qm_w, .inl (cI, 93, .inl m_w)), (qm_may, .inl (cZ, 18, .inl o_9)), (qm_least, .inl (cI, 9, .inl o_10)), (qm_isCarried, .inl (cZ, 18, .inl o_11)), (qm_list, .inl (cI, 18, .inl o_12)), (qm_nodes, .inl (cI, 41, .inl o_13)), (qm_kept, .inl (cI, 18, .inl m_kept)), (qm_keptLow, .inl (cI, 18, .inl m_keptLow)), (qm_keptHigh, .inl (cI, 18, .inl m_keptHigh)), (qm_keptNodes, .inl (cI, 41, .inl m_keptNodes)), (qm_numbers, .inl (cI, 6, .inl m_numbers))] H := hP
    have hD : va_D A [(qm, .inr (6, [.ref qm_w, .ref qm_past, .int m_pastMany, .ref qm_images, .int m_filled, .ref qm_text, .int m_length, .ref qm_may, .ref qm_least, .ref qm_isCarried, .ref qm_list, .ref qm_nodes, .int o_14, .int o_15, .int o_16, .int o_17, .int o_18, .int (1 : Int32), .int (0 : Int32), .ref qm_kept, .ref qm_keptLow, .ref qm_keptHigh, .int o_14, .ref qm_keptNodes, .ref qm_numbers, .ref qm_sums, .ref qm_commands, .int m_commandMany, .ref qm_held])), (qm_w, .inl (cI, 93, .inl m_w)), (qm_may, .inl (cZ, 18, .inl o_9)), (qm_least, .inl (cI, 9, .inl o_10)), (qm_isCarried, .inl (cZ, 18, .inl o_11)), (qm_list, .inl (cI, 18, .inl o_12)), (qm_nodes, .inl (cI, 41, .inl o_13)), (qm_kept, .inl (cI, 18, .inl m_kept)), (qm_keptLow, .inl (cI, 18, .inl m_keptLow)), (qm_keptHigh, .inl (cI, 18, .inl m_keptHigh)), (qm_keptNodes, .inl (cI, 41, .inl m_keptNodes)), (qm_numbers, .inl (cI, 6, .inl m_numbers))] := hD
    refine lv_iconst (v := (0 : Int32)) hx hb dX6_send_67 (by decide) ?_
    refine lv_istore (lv' := [(4, .int (0 : Int32)), (0, .ref qm)]) hx hb dX6_send_68 hl (by decide) rfl (fun ls hl => ?_)
    exact w70 1000 (0 : Int32) m_w o_9 o_10 o_11 o_12 o_13 o_14 o_15 o_16 o_17 o_18 (1 : Int32) (0 : Int32) m_kept m_keptLow m_keptHigh o_14 m_keptNodes m_numbers _ _ _ hP hD hS (lv_sub hl [1, 0] rfl) h
  refine lv_aload_n hx hb dX6_send_0 rfl (lv_at hl 0 rfl) ?_
  refine lv_iload_n hx hb dX6_send_1 rfl (lv_at hl 1 rfl) ?_
  obtain ⟨r_1, hc_2, h⟩ := ob_bind h
  refine k_callVIr (qb := 0) [0, 1] (As := [.int p1]) (rest := []) ⟨hx, hb, hml, hown, hts⟩ hT hZ hA hP hD hS (c_X6_isNode l D cI cZ cN aK aV qm qm_w qm_past qm_images qm_text qm_may qm_least qm_isCarried qm_list qm_nodes qm_kept qm_keptLow qm_keptHigh qm_keptNodes qm_numbers qm_sums qm_commands qm_held m_w m_pastMany m_filled m_length m_listMany m_went m_cost m_cause m_looks m_isSent m_isOld m_keptMany m_commandMany p1 r_1 hc_2) ⟨callB_of 1 hts (k_good u_832) rfl rfl rfl (hu _ u_51) (hu _ u_829) (by decide +kernel) ⟨Nat.le_of_ble_eq_true rfl, Nat.le_of_ble_eq_true rfl⟩, hu _ u_831, hu _ u_21⟩ rfl rfl rfl (by decide) rfl hl.1 rfl (Nat.le_of_ble_eq_true rfl) dX6_send_2 (fun H locs hP hD hS => ?_)
  refine lv_if_eq (tgt := 25) hx hb dX6_send_5 (by decide) (fun cc_3 => ?_) (fun cc_3 => ?_)
  · have h := (if_pos cc_3).symm.trans h
    refine lv_iconst (v := (-1 : Int32)) hx hb dX6_send_25 (by decide) ?_
    have hq := Option.some.inj h
    clear h
    obtain ⟨e0, hq0⟩ := Prod.mk.inj hq
    clear hq
    obtain ⟨e1, hq1⟩ := Prod.mk.inj hq0
    clear hq0
    obtain ⟨e2, hq2⟩ := Prod.mk.inj hq1
    clear hq1
    obtain ⟨e3, hq3⟩ := Prod.mk.inj hq2
    clear hq2
    obtain ⟨e4, hq4⟩ := Prod.mk.inj hq3
    clear hq3
    obtain ⟨e5, hq5⟩ := Prod.mk.inj hq4
    clear hq4
    obtain ⟨e6, hq6⟩ := Prod.mk.inj hq5
    clear hq5
    obtain ⟨e7, hq7⟩ := Prod.mk.inj hq6
    clear hq6
    obtain ⟨e8, hq8⟩ := Prod.mk.inj hq7
    clear hq7
    obtain ⟨e9, hq9⟩ := Prod.mk.inj hq8
    clear hq8
    obtain ⟨e10, hq10⟩ := Prod.mk.inj hq9
    clear hq9
    obtain ⟨e11, hq11⟩ := Prod.mk.inj hq10
    clear hq10
    obtain ⟨e12, hq12⟩ := Prod.mk.inj hq11
    clear hq11
    obtain ⟨e13, hq13⟩ := Prod.mk.inj hq12
    clear hq12
    obtain ⟨e14, hq14⟩ := Prod.mk.inj hq13
    clear hq13
    obtain ⟨e15, hq15⟩ := Prod.mk.inj hq14
    clear hq14
    obtain ⟨e16, hq16⟩ := Prod.mk.inj hq15
    clear hq15
    obtain ⟨e17, hq17⟩ := Prod.mk.inj hq16
    clear hq16
    subst e0
    subst e1
    subst e2
    subst e3
    subst e4
    subst e5
    subst e6
    subst e7
    subst e8
    subst e9
    subst e10
    subst e11
    subst e12
    subst e13
    subst e14
    subst e15
    subst e16
    subst e17
    subst hq17
    exact k_retI hx hb hr hlocks hP hD hS dX6_send_26
  · have h := (if_neg cc_3).symm.trans h
    refine lv_aload_n hx hb dX6_send_8 rfl (lv_at hl 0 rfl) ?_
    refine lv_iload_n hx hb dX6_send_9 rfl (lv_at hl 2 rfl) ?_
    obtain ⟨r_4, hc_5, h⟩ := ob_bind h
    refine k_callVIr (qb := 0) [0, 1] (As := [.int p2]) (rest := []) ⟨hx, hb, hml, hown, hts⟩ hT hZ hA hP hD hS (c_X6_isNode l D cI cZ cN aK aV qm qm_w qm_past qm_images qm_text qm_may qm_least qm_isCarried qm_list qm_nodes qm_kept qm_keptLow qm_keptHigh qm_keptNodes qm_numbers qm_sums qm_commands qm_held m_w m_pastMany m_filled m_length m_listMany m_went m_cost m_cause m_looks m_isSent m_isOld m_keptMany m_commandMany p2 r_4 hc_5) ⟨callB_of 1 hts (k_good u_832) rfl rfl rfl (hu _ u_51) (hu _ u_829) (by decide +kernel) ⟨Nat.le_of_ble_eq_true rfl, Nat.le_of_ble_eq_true rfl⟩, hu _ u_831, hu _ u_21⟩ rfl rfl rfl (by decide) rfl hl.1 rfl (Nat.le_of_ble_eq_true rfl) dX6_send_10 (fun H locs hP hD hS => ?_)
    refine lv_if_eq (tgt := 25) hx hb dX6_send_13 (by decide) (fun cc_6 => ?_) (fun cc_6 => ?_)
    · have h := (if_pos cc_6).symm.trans h
      refine lv_iconst (v := (-1 : Int32)) hx hb dX6_send_25 (by decide) ?_
      have hq := Option.some.inj h
      clear h
      obtain ⟨e0, hq0⟩ := Prod.mk.inj hq
      clear hq
      obtain ⟨e1, hq1⟩ := Prod.mk.inj hq0
      clear hq0
      obtain ⟨e2, hq2⟩ := Prod.mk.inj hq1
      clear hq1
      obtain ⟨e3, hq3⟩ := Prod.mk.inj hq2
      clear hq2
      obtain ⟨e4, hq4⟩ := Prod.mk.inj hq3
      clear hq3
      obtain ⟨e5, hq5⟩ := Prod.mk.inj hq4
      clear hq4
      obtain ⟨e6, hq6⟩ := Prod.mk.inj hq5
      clear hq5
      obtain ⟨e7, hq7⟩ := Prod.mk.inj hq6
      clear hq6
      obtain ⟨e8, hq8⟩ := Prod.mk.inj hq7
      clear hq7
      obtain ⟨e9, hq9⟩ := Prod.mk.inj hq8
      clear hq8
      obtain ⟨e10, hq10⟩ := Prod.mk.inj hq9
      clear hq9
      obtain ⟨e11, hq11⟩ := Prod.mk.inj hq10
      clear hq10
      obtain ⟨e12, hq12⟩ := Prod.mk.inj hq11
      clear hq11
      obtain ⟨e13, hq13⟩ := Prod.mk.inj hq12
      clear hq12
      obtain ⟨e14, hq14⟩ := Prod.mk.inj hq13
      clear hq13
      obtain ⟨e15, hq15⟩ := Prod.mk.inj hq14
      clear hq14
      obtain ⟨e16, hq16⟩ := Prod.mk.inj hq15
      clear hq15
      obtain ⟨e17, hq17⟩ := Prod.mk.inj hq16
      clear hq16
      subst e0
      subst e1
      subst e2
      subst e3
      subst e4
      subst e5
      subst e6
      subst e7
      subst e8
      subst e9
      subst e10
      subst e11
      subst e12
      subst e13
      subst e14
      subst e15
      subst e16
      subst e17
      subst hq17
      exact k_retI hx hb hr hlocks hP hD hS dX6_send_26
    · have h := (if_neg cc_6).symm.trans h
      refine lv_iload_n hx hb dX6_send_16 rfl (lv_at hl 3 rfl) ?_
      refine lv_iconst (v := (0 : Int32)) hx hb dX6_send_17 (by decide) ?_
      refine lv_iconst (v := (1 : Int32)) hx hb dX6_send_18 (by decide) ?_
      refine k_call0 (As := [.int p3, .int (0 : Int32), .int (1 : Int32)]) (rest := []) ⟨hx, hb, hml, hown, hts⟩ hT hZ hA hP hD hS (c_X6_isIn l D cI cZ cN aK aV p3 (0 : Int32) (1 : Int32) _ rfl) ⟨callB_of 3 hts (k_good u_812) rfl rfl rfl (hu _ u_51) (hu _ u_810) (by decide +kernel) ⟨Nat.le_of_ble_eq_true rfl, Nat.le_of_ble_eq_true rfl⟩, hu _ u_811⟩ rfl hl.1 rfl (Nat.le_of_ble_eq_true rfl) dX6_send_19 (fun H locs hP hD hS => ?_)
      refine lv_if_ne (tgt := 27) hx hb dX6_send_22 (by decide) (fun cc_7 => ?_) (fun cc_7 => ?_)
      · have h := (if_neg cc_7).symm.trans h
        refine lv_aload_n hx hb dX6_send_27 rfl (lv_at hl 0 rfl) ?_
        refine lv_iload_n hx hb dX6_send_28 rfl (lv_at hl 1 rfl) ?_
        refine lv_iload_n hx hb dX6_send_29 rfl (lv_at hl 2 rfl) ?_
        refine lv_iload_n hx hb dX6_send_30 rfl (lv_at hl 3 rfl) ?_
        refine lv_iconst (v := (1 : Int32)) hx hb dX6_send_31 (by decide) ?_
        refine lv_icmp_ne (tgt := 39) hx hb dX6_send_32 (by decide) (fun cc_8 => ?_) (fun cc_8 => ?_)
        · have h := (if_neg cc_8).symm.trans h
          refine lv_iconst (v := (0 : Int32)) hx hb dX6_send_39 (by decide) ?_
          exact w40 (0 : Int32) p2 p1 m_w m_may m_least m_isCarried m_list m_nodes m_listMany m_went m_cost m_cause m_looks m_isSent m_isOld m_kept m_keptLow m_keptHigh m_keptMany m_keptNodes m_numbers _ _ _ hP hD hS (lv_sub hl [0] rfl) h
        · have h := (if_pos cc_8).symm.trans h
          refine lv_iconst (v := (1 : Int32)) hx hb dX6_send_35 (by decide) ?_
          refine lv_goto (tgt := 40) hx hb dX6_send_36 (by decide) ?_
          exact w40 (1 : Int32) p2 p1 m_w m_may m_least m_isCarried m_list m_nodes m_listMany m_went m_cost m_cause m_looks m_isSent m_isOld m_kept m_keptLow m_keptHigh m_keptMany m_keptNodes m_numbers _ _ _ hP hD hS (lv_sub hl [0] rfl) h
      · have h := (if_pos cc_7).symm.trans h
        refine lv_iconst (v := (-1 : Int32)) hx hb dX6_send_25 (by decide) ?_
        have hq := Option.some.inj h
        clear h
        obtain ⟨e0, hq0⟩ := Prod.mk.inj hq
        clear hq
        obtain ⟨e1, hq1⟩ := Prod.mk.inj hq0
        clear hq0
        obtain ⟨e2, hq2⟩ := Prod.mk.inj hq1
        clear hq1
        obtain ⟨e3, hq3⟩ := Prod.mk.inj hq2
        clear hq2
        obtain ⟨e4, hq4⟩ := Prod.mk.inj hq3
        clear hq3
        obtain ⟨e5, hq5⟩ := Prod.mk.inj hq4
        clear hq4
        obtain ⟨e6, hq6⟩ := Prod.mk.inj hq5
        clear hq5
        obtain ⟨e7, hq7⟩ := Prod.mk.inj hq6
        clear hq6
        obtain ⟨e8, hq8⟩ := Prod.mk.inj hq7
        clear hq7
        obtain ⟨e9, hq9⟩ := Prod.mk.inj hq8
        clear hq8
        obtain ⟨e10, hq10⟩ := Prod.mk.inj hq9
        clear hq9
        obtain ⟨e11, hq11⟩ := Prod.mk.inj hq10
        clear hq10
        obtain ⟨e12, hq12⟩ := Prod.mk.inj hq11
        clear hq11
        obtain ⟨e13, hq13⟩ := Prod.mk.inj hq12
        clear hq12
        obtain ⟨e14, hq14⟩ := Prod.mk.inj hq13
        clear hq13
        obtain ⟨e15, hq15⟩ := Prod.mk.inj hq14
        clear hq14
        obtain ⟨e16, hq16⟩ := Prod.mk.inj hq15
        clear hq15
        obtain ⟨e17, hq17⟩ := Prod.mk.inj hq16
        clear hq16
        subst e0
        subst e1
        subst e2
        subst e3
        subst e4
        subst e5
        subst e6
        subst e7
        subst e8
        subst e9
        subst e10
        subst e11
        subst e12
        subst e13
        subst e14
        subst e15
        subst e16
        subst e17
        subst hq17
        exact k_retI hx hb hr hlocks hP hD hS dX6_send_26
