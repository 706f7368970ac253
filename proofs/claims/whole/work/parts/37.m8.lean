def f_X6_carriesOut_b138  (x1 : Int32) (s0 : Int32) (m_w : (Nat → Int32)) (m_commands : (Nat → Int32)) : Option (Int32 × (Nat → Int32)) :=
  if s0 = (-9 : Int32) then
    some ((0 : Int32), m_w)
  else
    if inb ((4 : Int32) * x1) 320 = true then
    if (m_commands (Int32.toNatClampNeg ((4 : Int32) * x1))) = (3 : Int32) then
      if inb (((3 : Int32) + ((5 : Int32) * s0)) + (3 : Int32)) 93 = true then
      if inb (((3 : Int32) + ((5 : Int32) * s0)) + (4 : Int32)) 93 = true then
      some ((1 : Int32), (upd m_w (Int32.toNatClampNeg (((3 : Int32) + ((5 : Int32) * s0)) + (4 : Int32))) (m_w (Int32.toNatClampNeg (((3 : Int32) + ((5 : Int32) * s0)) + (3 : Int32))))))
      else none
      else none
    else
      if (m_commands (Int32.toNatClampNeg ((4 : Int32) * x1))) = (2 : Int32) then
        if inb (((3 : Int32) + ((5 : Int32) * s0)) + (3 : Int32)) 93 = true then
        some ((1 : Int32), (upd m_w (Int32.toNatClampNeg (((3 : Int32) + ((5 : Int32) * s0)) + (3 : Int32))) (1 : Int32)))
        else none
      else
        if inb (((3 : Int32) + ((5 : Int32) * s0)) + (3 : Int32)) 93 = true then
        some ((1 : Int32), (upd m_w (Int32.toNatClampNeg (((3 : Int32) + ((5 : Int32) * s0)) + (3 : Int32))) (0 : Int32)))
        else none
    else none
def f_X6_carriesOut_b57  (x1 : Int32) (x2 : Int32) (x3 : Int32) (s0 : Int32) (m_w : (Nat → Int32)) (m_commands : (Nat → Int32)) : Option (Int32 × (Nat → Int32)) :=
  if s0 = (0 : Int32) then
    if isb s0 = true then
    some (s0, m_w)
    else none
  else
    if inb (((4 : Int32) * x1) + (3 : Int32)) 320 = true then
    (f_X6_append x2 x3 (m_commands (Int32.toNatClampNeg (((4 : Int32) * x1) + (3 : Int32)))) m_w).bind fun o_20 =>
    if isb s0 = true then
    some (s0, o_20)
    else none
    else none
def f_X6_carriesOut (p1 : Int32) (m_w : (Nat → Int32)) (m_commands : (Nat → Int32)) : Option (Int32 × (Nat → Int32)) :=
  if inb (((4 : Int32) * p1) + (1 : Int32)) 320 = true then
  if inb (((4 : Int32) * p1) + (2 : Int32)) 320 = true then
  if inb ((4 : Int32) * p1) 320 = true then
  if (m_commands (Int32.toNatClampNeg ((4 : Int32) * p1))) = (0 : Int32) then
    if inb (((4 : Int32) * p1) + (3 : Int32)) 320 = true then
    (f_X6_faultOfAdd (m_commands (Int32.toNatClampNeg (((4 : Int32) * p1) + (1 : Int32)))) (m_commands (Int32.toNatClampNeg (((4 : Int32) * p1) + (2 : Int32)))) (m_commands (Int32.toNatClampNeg (((4 : Int32) * p1) + (3 : Int32)))) m_w).bind fun r_15 =>
    if r_15 = (0 : Int32) then
      f_X6_carriesOut_b57  p1 (m_commands (Int32.toNatClampNeg (((4 : Int32) * p1) + (1 : Int32)))) (m_commands (Int32.toNatClampNeg (((4 : Int32) * p1) + (2 : Int32)))) (1 : Int32) m_w m_commands
    else
      f_X6_carriesOut_b57  p1 (m_commands (Int32.toNatClampNeg (((4 : Int32) * p1) + (1 : Int32)))) (m_commands (Int32.toNatClampNeg (((4 : Int32) * p1) + (2 : Int32)))) (0 : Int32) m_w m_commands
    else none
  else
    if (m_commands (Int32.toNatClampNeg ((4 : Int32) * p1))) = (4 : Int32) then
      some ((1 : Int32), (upd (upd m_w (Int32.toNatClampNeg (0 : Int32)) (m_commands (Int32.toNatClampNeg (((4 : Int32) * p1) + (1 : Int32))))) (Int32.toNatClampNeg (1 : Int32)) (0 : Int32)))
    else
      (f_X6_isNode (m_commands (Int32.toNatClampNeg (((4 : Int32) * p1) + (1 : Int32)))) m_w).bind fun r_6 =>
      if r_6 = (0 : Int32) then
        f_X6_carriesOut_b138  p1 (-9 : Int32) m_w m_commands
      else
        (f_X6_isNode (m_commands (Int32.toNatClampNeg (((4 : Int32) * p1) + (2 : Int32)))) m_w).bind fun r_9 =>
        if r_9 = (0 : Int32) then
          f_X6_carriesOut_b138  p1 (-9 : Int32) m_w m_commands
        else
          (f_X6_linkOf (m_commands (Int32.toNatClampNeg (((4 : Int32) * p1) + (1 : Int32)))) (m_commands (Int32.toNatClampNeg (((4 : Int32) * p1) + (2 : Int32)))) m_w).bind fun r_12 =>
          f_X6_carriesOut_b138  p1 r_12 m_w m_commands
  else none
  else none
  else none
set_option maxHeartbeats 4000000 in
set_option maxRecDepth 100000 in
theorem c_X6_carriesOut (l : Launch) (D : va_G) (cI cZ cN : ClassId) (aK aV : Nat → Nat)  (qm : Nat) (qm_w : Nat) (qm_past : Nat) (qm_images : Nat) (qm_text : Nat) (qm_may : Nat) (qm_least : Nat) (qm_isCarried : Nat) (qm_list : Nat) (qm_nodes : Nat) (qm_kept : Nat) (qm_keptLow : Nat) (qm_keptHigh : Nat) (qm_keptNodes : Nat) (qm_numbers : Nat) (qm_sums : Nat) (qm_commands : Nat) (qm_held : Nat) (m_w : (Nat → Int32)) (m_pastMany : Int32) (m_filled : Int32) (m_length : Int32) (m_listMany : Int32) (m_went : Int32) (m_cost : Int32) (m_cause : Int32) (m_looks : Int32) (m_isSent : Int32) (m_isOld : Int32) (m_keptMany : Int32) (m_commands : (Nat → Int32)) (m_commandMany : Int32) (p1 : Int32) (r : Int32) (z_m_w : (Nat → Int32)) (h : f_X6_carriesOut p1 m_w m_commands = some (r, z_m_w)) : CtI l D cI cZ cN aK aV yX6_carriesOut (k_W yX6_carriesOut cX6_carriesOut 6 (some .boolean)) { frames := 3, cells := 0, slots := 0, locals := 68 } [.ref qm, .int p1] [(qm, .inr (6, [.ref qm_w, .ref qm_past, .int m_pastMany, .ref qm_images, .int m_filled, .ref qm_text, .int m_length, .ref qm_may, .ref qm_least, .ref qm_isCarried, .ref qm_list, .ref qm_nodes, .int m_listMany, .int m_went, .int m_cost, .int m_cause, .int m_looks, .int m_isSent, .int m_isOld, .ref qm_kept, .ref qm_keptLow, .ref qm_keptHigh, .int m_keptMany, .ref qm_keptNodes, .ref qm_numbers, .ref qm_sums, .ref qm_commands, .int m_commandMany, .ref qm_held])), (qm_w, .inl (cI, 93, .inl m_w)), (qm_commands, .inl (cI, 320, .inl m_commands))] r [(qm, .inr (6, [.ref qm_w, .ref qm_past, .int m_pastMany, .ref qm_images, .int m_filled, .ref qm_text, .int m_length, .ref qm_may, .ref qm_least, .ref qm_isCarried, .ref qm_list, .ref qm_nodes, .int m_listMany, .int m_went, .int m_cost, .int m_cause, .int m_looks, .int m_isSent, .int m_isOld, .ref qm_kept, .ref qm_keptLow, .ref qm_keptHigh, .int m_keptMany, .ref qm_keptNodes, .ref qm_numbers, .ref qm_sums, .ref qm_commands, .int m_commandMany, .ref qm_held])), (qm_w, .inl (cI, 93, .inl z_m_w)), (qm_commands, .inl (cI, 320, .inl m_commands))] := by
  refine k_startI (by decide) (Nat.le_of_ble_eq_true rfl) ?_
  intro p e s m below meth c A ls hx hb hr hml hown hts hlocks hT hZ hA hP hD hS hl
  have hK := hT.1
  have hu : ∀ w ∈ k_U, w.before ([.ref qm, .int p1] : List Value).toArray s = true := fun w h => hts w (List.mem_cons_of_mem _ h)
  have hown : s.vm.findClass RX6 = some m.cls := hown
  have hl : lv_has ls 6 [(0, .ref qm), (1, .int p1)] := hl
  unfold f_X6_carriesOut at h
  have w138 : ∀  (x1 : Int32) (s0 : Int32) (m_w : (Nat → Int32)) (m_commands : (Nat → Int32)) (H : Heap) (locs : List Loc) (ls : Array Slot), va_P D vwCl [(qm, .inr (6, [.ref qm_w, .ref qm_past, .int m_pastMany, .ref qm_images, .int m_filled, .ref qm_text, .int m_length, .ref qm_may, .ref qm_least, .ref qm_isCarried, .ref qm_list, .ref qm_nodes, .int m_listMany, .int m_went, .int m_cost, .int m_cause, .int m_looks, .int m_isSent, .int m_isOld, .ref qm_kept, .ref qm_keptLow, .ref qm_keptHigh, .int m_keptMany, .ref qm_keptNodes, .ref qm_numbers, .ref qm_sums, .ref qm_commands, .int m_commandMany, .ref qm_held])), (qm_w, .inl (cI, 93, .inl m_w)), (qm_commands, .inl (cI, 320, .inl m_commands))] H → va_D A [(qm, .inr (6, [.ref qm_w, .ref qm_past, .int m_pastMany, .ref qm_images, .int m_filled, .ref qm_text, .int m_length, .ref qm_may, .ref qm_least, .ref qm_isCarried, .ref qm_list, .ref qm_nodes, .int m_listMany, .int m_went, .int m_cost, .int m_cause, .int m_looks, .int m_isSent, .int m_isOld, .ref qm_kept, .ref qm_keptLow, .ref qm_keptHigh, .int m_keptMany, .ref qm_keptNodes, .ref qm_numbers, .ref qm_sums, .ref qm_commands, .int m_commandMany, .ref qm_held])), (qm_w, .inl (cI, 93, .inl m_w)), (qm_commands, .inl (cI, 320, .inl m_commands))] → va_S A s.heap H locs → lv_has ls 6 [(0, .ref qm), (1, .int x1)] → f_X6_carriesOut_b138 x1 s0 m_w m_commands = some (r, z_m_w) → W p l e { frames := 3, cells := 0, slots := 0, locals := 68 } s m ([.ref qm, .int p1] : List Value).toArray below meth c H locs 0 0 (MQ below (k_QI D r [(qm, .inr (6, [.ref qm_w, .ref qm_past, .int m_pastMany, .ref qm_images, .int m_filled, .ref qm_text, .int m_length, .ref qm_may, .ref qm_least, .ref qm_isCarried, .ref qm_list, .ref qm_nodes, .int m_listMany, .int m_went, .int m_cost, .int m_cause, .int m_looks, .int m_isSent, .int m_isOld, .ref qm_kept, .ref qm_keptLow, .ref qm_keptHigh, .int m_keptMany, .ref qm_keptNodes, .ref qm_numbers, .ref qm_sums, .ref qm_commands, .int m_commandMany, .ref qm_held])), (qm_w, .inl (cI, 93, .inl z_m_w)), (qm_commands, .inl (cI, 320, .inl m_commands))] A) ([.ref qm, .int p1] : List Value).toArray s 0 0 A) (F0 m 138 ls [.int s0]) := by
    intro x1 s0 m_w m_commands H locs ls hP hD hS hl h
    unfold f_X6_carriesOut_b138 at h
    refine lv_istore (lv' := [(4, .int s0), (0, .ref qm), (1, .int x1)]) hx hb dX6_carriesOut_138 hl (by decide) rfl (fun ls hl => ?_)
    refine lv_iload hx hb dX6_carriesOut_140 (lv_at hl 0 rfl) ?_
    refine lv_bipush (v := (-9 : Int32)) hx hb dX6_carriesOut_142 (by decide) ?_
    refine lv_icmp_ne (tgt := 149) hx hb dX6_carriesOut_144 (by decide) (fun cc_22 => ?_) (fun cc_22 => ?_)
    · have h := (if_neg cc_22).symm.trans h
      refine lv_iconst (v := (3 : Int32)) hx hb dX6_carriesOut_149 (by decide) ?_
      refine lv_iconst (v := (5 : Int32)) hx hb dX6_carriesOut_150 (by decide) ?_
      refine lv_iload hx hb dX6_carriesOut_151 (lv_at hl 0 rfl) ?_
      refine lv_imul hx hb dX6_carriesOut_153 ?_
      refine lv_iadd hx hb dX6_carriesOut_154 ?_
      refine lv_istore (lv' := [(5, .int ((3 : Int32) + ((5 : Int32) * s0))), (4, .int s0), (0, .ref qm), (1, .int x1)]) hx hb dX6_carriesOut_155 hl (by decide) rfl (fun ls hl => ?_)
      refine lv_aload_n hx hb dX6_carriesOut_157 rfl (lv_at hl 2 rfl) ?_
      refine va_get (D := D) (ci := 6) (v := .ref qm_commands) (C := RX6) (T := TX6) (N := 29) hx hb hu k_iX6 hown hK hP 0 rfl rfl 26 (by decide) (hu _ u_744) (fun _ h9 => h9) rfl dX6_carriesOut_158 ?_
      refine lv_iconst (v := (4 : Int32)) hx hb dX6_carriesOut_161 (by decide) ?_
      refine lv_iload_n hx hb dX6_carriesOut_162 rfl (lv_at hl 3 rfl) ?_
      refine lv_imul hx hb dX6_carriesOut_163 ?_
      obtain ⟨hin_23, h⟩ := ob_if h
      have hin_23 := inb_in hin_23
      refine va_iald (D := D) hx hb hK hP 2 0 rfl rfl hin_23 dX6_carriesOut_164 ?_
      refine lv_iconst (v := (3 : Int32)) hx hb dX6_carriesOut_165 (by decide) ?_
      refine lv_icmp_ne (tgt := 190) hx hb dX6_carriesOut_166 (by decide) (fun cc_24 => ?_) (fun cc_24 => ?_)
      · have h := (if_neg cc_24).symm.trans h
        refine lv_aload_n hx hb dX6_carriesOut_190 rfl (lv_at hl 2 rfl) ?_
        refine va_get (D := D) (ci := 6) (v := .ref qm_w) (C := RX6) (T := TX6) (N := 29) hx hb hu k_iX6 hown hK hP 0 rfl rfl 0 (by decide) (hu _ u_718) (fun _ h9 => h9) rfl dX6_carriesOut_191 ?_
        refine lv_iload hx hb dX6_carriesOut_194 (lv_at hl 0 rfl) ?_
        refine lv_iconst (v := (3 : Int32)) hx hb dX6_carriesOut_196 (by decide) ?_
        refine lv_iadd hx hb dX6_carriesOut_197 ?_
        refine lv_aload_n hx hb dX6_carriesOut_198 rfl (lv_at hl 2 rfl) ?_
        refine va_get (D := D) (ci := 6) (v := .ref qm_commands) (C := RX6) (T := TX6) (N := 29) hx hb hu k_iX6 hown hK hP 0 rfl rfl 26 (by decide) (hu _ u_744) (fun _ h9 => h9) rfl dX6_carriesOut_199 ?_
        refine lv_iconst (v := (4 : Int32)) hx hb dX6_carriesOut_202 (by decide) ?_
        refine lv_iload_n hx hb dX6_carriesOut_203 rfl (lv_at hl 3 rfl) ?_
        refine lv_imul hx hb dX6_carriesOut_204 ?_
        refine va_iald (D := D) hx hb hK hP 2 0 rfl rfl hin_23 dX6_carriesOut_205 ?_
        refine lv_iconst (v := (2 : Int32)) hx hb dX6_carriesOut_206 (by decide) ?_
        refine lv_icmp_ne (tgt := 214) hx hb dX6_carriesOut_207 (by decide) (fun cc_25 => ?_) (fun cc_25 => ?_)
        · have h := (if_neg cc_25).symm.trans h
          refine lv_iconst (v := (0 : Int32)) hx hb dX6_carriesOut_214 (by decide) ?_
          obtain ⟨hin_26, h⟩ := ob_if h
          have hin_26 := inb_in hin_26
          refine va_iast (D := D) hx hb hK hP hD hS 1 0 rfl rfl hin_26 dX6_carriesOut_215 (fun H locs hP hD hS => ?_)
          have hP : va_P D vwCl [(qm, .inr (6, [.ref qm_w, .ref qm_past, .int m_pastMany, .ref qm_images, .int m_filled, .ref qm_text, .int m_length, .ref qm_may, .ref qm_least, .ref qm_isCarried, .ref qm_list, .ref qm_nodes, .int m_listMany, .int m_went, .int m_cost, .int m_cause, .int m_looks, .int m_isSent, .int m_isOld, .ref qm_kept, .ref qm_keptLow, .ref qm_keptHigh, .int m_keptMany, .ref qm_keptNodes, .ref qm_numbers, .ref qm_sums, .ref qm_commands, .int m_commandMany, .ref qm_held])), (qm_w, .inl (cI, 93, .inl (upd m_w (Int32.toNatClampNeg (((3 : Int32) + ((5 : Int32) * s0)) + (3 : Int32))) (0 : Int32)))), (qm_commands, .inl (cI, 320, .inl m_commands))] H := hP
          have hD : va_D A [(qm, .inr (6, [.ref qm_w, .ref qm_past, .int m_pastMany, .ref qm_images, .int m_filled, .ref qm_text, .int m_length, .ref qm_may, .ref qm_least, .ref qm_isCarried, .ref qm_list, .ref qm_nodes, .int m_listMany, .int m_went, .int m_cost, .int m_cause, .int m_looks, .int m_isSent, .int m_isOld, .ref qm_kept, .ref qm_keptLow, .ref qm_keptHigh, .int m_keptMany, .ref qm_keptNodes, .ref qm_numbers, .ref qm_sums, .ref qm_commands, .int m_commandMany, .ref qm_held])), (qm_w, .inl (cI, 93, .inl (upd m_w (Int32.toNatClampNeg (((3 : Int32) + ((5 : Int32) * s0)) + (3 : Int32))) (0 : Int32)))), (qm_commands, .inl (cI, 320, .inl m_commands))] := hD
          refine lv_iconst (v := (1 : Int32)) hx hb dX6_carriesOut_216 (by decide) ?_
          have hq := Option.some.inj h
          clear h
          obtain ⟨e0, hq0⟩ := Prod.mk.inj hq
          clear hq
          subst e0
          subst hq0
          exact k_retZ hx hb hr hlocks (Or.inr rfl) hP hD hS dX6_carriesOut_217
        · have h := (if_pos cc_25).symm.trans h
          refine lv_iconst (v := (1 : Int32)) hx hb dX6_carriesOut_210 (by decide) ?_
          refine lv_goto (tgt := 215) hx hb dX6_carriesOut_211 (by decide) ?_
          obtain ⟨hin_27, h⟩ := ob_if h
          have hin_27 := inb_in hin_27
          refine va_iast (D := D) hx hb hK hP hD hS 1 0 rfl rfl hin_27 dX6_carriesOut_215 (fun H locs hP hD hS => ?_)
          have hP : va_P D vwCl [(qm, .inr (6, [.ref qm_w, .ref qm_past, .int m_pastMany, .ref qm_images, .int m_filled, .ref qm_text, .int m_length, .ref qm_may, .ref qm_least, .ref qm_isCarried, .ref qm_list, .ref qm_nodes, .int m_listMany, .int m_went, .int m_cost, .int m_cause, .int m_looks, .int m_isSent, .int m_isOld, .ref qm_kept, .ref qm_keptLow, .ref qm_keptHigh, .int m_keptMany, .ref qm_keptNodes, .ref qm_numbers, .ref qm_sums, .ref qm_commands, .int m_commandMany, .ref qm_held])), (qm_w, .inl (cI, 93, .inl (upd m_w (Int32.toNatClampNeg (((3 : Int32) + ((5 : Int32) * s0)) + (3 : Int32))) (1 : Int32)))), (qm_commands, .inl (cI, 320, .inl m_commands))] H := hP
          have hD : va_D A [(qm, .inr (6, [.ref qm_w, .ref qm_past, .int m_pastMany, .ref qm_images, .int m_filled, .ref qm_text, .int m_length, .ref qm_may, .ref qm_least, .ref qm_isCarried, .ref qm_list, .ref qm_nodes, .int m_listMany, .int m_went, .int m_cost, .int m_cause, .int m_looks, .int m_isSent, .int m_isOld, .ref qm_kept, .ref qm_keptLow, .ref qm_keptHigh, .int m_keptMany, .ref qm_keptNodes, .ref qm_numbers, .ref qm_sums, .ref qm_commands, .int m_commandMany, .ref qm_held])), (qm_w, .inl (cI, 93, .inl (upd m_w (Int32.toNatClampNeg (((3 : Int32) + ((5 : Int32) * s0)) + (3 : Int32))) (1 : Int32)))), (qm_commands, .inl (cI, 320, .inl m_commands))] := hD
          refine lv_iconst (v := (1 : Int32)) hx hb dX6_carriesOut_216 (by decide) ?_
          have hq := Option.some.inj h
          clear h
          obtain ⟨e0, hq0⟩ := Prod.mk.inj hq
          clear hq
          subst e0
          subst hq0
          exact k_retZ hx hb hr hlocks (Or.inr rfl) hP hD hS dX6_carriesOut_217
      · have h := (if_pos cc_24).symm.trans h
        refine lv_aload_n hx hb dX6_carriesOut_169 rfl (lv_at hl 2 rfl) ?_
        refine va_get (D := D) (ci := 6) (v := .ref qm_w) (C := RX6) (T := TX6) (N := 29) hx hb hu k_iX6 hown hK hP 0 rfl rfl 0 (by decide) (hu _ u_718) (fun _ h9 => h9) rfl dX6_carriesOut_170 ?_
        refine lv_iload hx hb dX6_carriesOut_173 (lv_at hl 0 rfl) ?_
        refine lv_iconst (v := (4 : Int32)) hx hb dX6_carriesOut_175 (by decide) ?_
        refine lv_iadd hx hb dX6_carriesOut_176 ?_
        refine lv_aload_n hx hb dX6_carriesOut_177 rfl (lv_at hl 2 rfl) ?_
        refine va_get (D := D) (ci := 6) (v := .ref qm_w) (C := RX6) (T := TX6) (N := 29) hx hb hu k_iX6 hown hK hP 0 rfl rfl 0 (by decide) (hu _ u_718) (fun _ h9 => h9) rfl dX6_carriesOut_178 ?_
        refine lv_iload hx hb dX6_carriesOut_181 (lv_at hl 0 rfl) ?_
        refine lv_iconst (v := (3 : Int32)) hx hb dX6_carriesOut_183 (by decide) ?_
        refine lv_iadd hx hb dX6_carriesOut_184 ?_
        obtain ⟨hin_28, h⟩ := ob_if h
        have hin_28 := inb_in hin_28
        refine va_iald (D := D) hx hb hK hP 1 0 rfl rfl hin_28 dX6_carriesOut_185 ?_
        obtain ⟨hin_29, h⟩ := ob_if h
        have hin_29 := inb_in hin_29
        refine va_iast (D := D) hx hb hK hP hD hS 1 0 rfl rfl hin_29 dX6_carriesOut_186 (fun H locs hP hD hS => ?_)
        have hP : va_P D vwCl [(qm, .inr (6, [.ref qm_w, .ref qm_past, .int m_pastMany, .ref qm_images, .int m_filled, .ref qm_text, .int m_length, .ref qm_may, .ref qm_least, .ref qm_isCarried, .ref qm_list, .ref qm_nodes, .int m_listMany, .int m_went, .int m_cost, .int m_cause, .int m_looks, .int m_isSent, .int m_isOld, .ref qm_kept, .ref qm_keptLow, .ref qm_keptHigh, .int m_keptMany, .ref qm_keptNodes, .ref qm_numbers, .ref qm_sums, .ref qm_commands, .int m_commandMany, .ref qm_held])), (qm_w, .inl (cI, 93, .inl (upd m_w (Int32.toNatClampNeg (((3 : Int32) + ((5 : Int32) * s0)) + (4 : Int32))) (m_w (Int32.toNatClampNeg (((3 : Int32) + ((5 : Int32) * s0)) + (3 : Int32))))))), (qm_commands, .inl (cI, 320, .inl m_commands))] H := hP
        have hD : va_D A [(qm, .inr (6, [.ref qm_w, .ref qm_past, .int m_pastMany, .ref qm_images, .int m_filled, .ref qm_text, .int m_length, .ref qm_may, .ref qm_least, .ref qm_isCarried, .ref qm_list, .ref qm_nodes, .int m_listMany, .int m_went, .int m_cost, .int m_cause, .int m_looks, .int m_isSent, .int m_isOld, .ref qm_kept, .ref qm_keptLow, .ref qm_keptHigh, .int m_keptMany, .ref qm_keptNodes, .ref qm_numbers, .ref qm_sums, .ref qm_commands, .int m_commandMany, .ref qm_held])), (qm_w, .inl (cI, 93, .inl (upd m_w (Int32.toNatClampNeg (((3 : Int32) + ((5 : Int32) * s0)) + (4 : Int32))) (m_w (Int32.toNatClampNeg (((3 : Int32) + ((5 : Int32) * s0)) + (3 : Int32))))))), (qm_commands, .inl (cI, 320, .inl m_commands))] := hD
        refine lv_goto (tgt := 216) hx hb dX6_carriesOut_187 (by decide) ?_
        refine lv_iconst (v := (1 : Int32)) hx hb dX6_carriesOut_216 (by decide) ?_
        have hq := Option.some.inj h
        clear h
        obtain ⟨e0, hq0⟩ := Prod.mk.inj hq
        clear hq
        subst e0
        subst hq0
        exact k_retZ hx hb hr hlocks (Or.inr rfl) hP hD hS dX6_carriesOut_217
    · have h := (if_pos cc_22).symm.trans h
      refine lv_iconst (v := (0 : Int32)) hx hb dX6_carriesOut_147 (by decide) ?_
      have hq := Option.some.inj h
      clear h
      obtain ⟨e0, hq0⟩ := Prod.mk.inj hq
      clear hq
      subst e0
      subst hq0
      exact k_retZ hx hb hr hlocks (Or.inl rfl) hP hD hS dX6_carriesOut_148
  have w57 : ∀  (x1 : Int32) (x2 : Int32) (x3 : Int32) (s0 : Int32) (m_w : (Nat → Int32)) (m_commands : (Nat → Int32)) (H : Heap) (locs : List Loc) (ls : Array Slot), va_P D vwCl [(qm, .inr (6, [.ref qm_w, .ref qm_past, .int m_pastMany, .ref qm_images, .int m_filled, .ref qm_text, .int m_length, .ref qm_may, .ref qm_least, .ref qm_isCarried, .ref qm_list, .ref qm_nodes, .int m_listMany, .int m_went, .int m_cost, .int m_cause, .int m_looks, .int m_isSent, .int m_isOld, .ref qm_kept, .ref qm_keptLow, .ref qm_keptHigh, .int m_keptMany, .ref qm_keptNodes, .ref qm_numbers, .ref qm_sums, .ref qm_commands, .int m_commandMany, .ref qm_held])), (qm_w, .inl (cI, 93, .inl m_w)), (qm_commands, .inl (cI, 320, .inl m_commands))] H → va_D A [(qm, .inr (6, [.ref qm_w, .ref qm_past, .int m_pastMany, .ref qm_images, .int m_filled, .ref qm_text, .int m_length, .ref qm_may, .ref qm_least, .ref qm_isCarried, .ref qm_list, .ref qm_nodes, .int m_listMany, .int m_went, .int m_cost, .int m_cause, .int m_looks, .int m_isSent, .int m_isOld, .ref qm_kept, .ref qm_keptLow, .ref qm_keptHigh, .int m_keptMany, .ref qm_keptNodes, .ref qm_numbers, .ref qm_sums, .ref qm_commands, .int m_commandMany, .ref qm_held])), (qm_w, .inl (cI, 93, .inl m_w)), (qm_commands, .inl (cI, 320, .inl m_commands))] → va_S A s.heap H locs → lv_has ls 6 [(0, .ref qm), (1, .int x1), (2, .int x2), (3, .int x3)] → f_X6_carriesOut_b57 x1 x2 x3 s0 m_w m_commands = some (r, z_m_w) → W p l e { frames := 3, cells := 0, slots := 0, locals := 68 } s m ([.ref qm, .int p1] : List Value).toArray below meth c H locs 0 0 (MQ below (k_QI D r [(qm, .inr (6, [.ref qm_w, .ref qm_past, .int m_pastMany, .ref qm_images, .int m_filled, .ref qm_text, .int m_length, .ref qm_may, .ref qm_least, .ref qm_isCarried, .ref qm_list, .ref qm_nodes, .int m_listMany, .int m_went, .int m_cost, .int m_cause, .int m_looks, .int m_isSent, .int m_isOld, .ref qm_kept, .ref qm_keptLow, .ref qm_keptHigh, .int m_keptMany, .ref qm_keptNodes, .ref qm_numbers, .ref qm_sums, .ref qm_commands, .int m_commandMany, .ref qm_held])), (qm_w, .inl (cI, 93, .inl z_m_w)), (qm_commands, .inl (cI, 320, .inl m_commands))] A) ([.ref qm, .int p1] : List Value).toArray s 0 0 A) (F0 m 57 ls [.int s0]) := by
    intro x1 x2 x3 s0 m_w m_commands H locs ls hP hD hS hl h
    unfold f_X6_carriesOut_b57 at h
    refine lv_istore (lv' := [(4, .int s0), (0, .ref qm), (1, .int x1), (2, .int x2), (3, .int x3)]) hx hb dX6_carriesOut_57 hl (by decide) rfl (fun ls hl => ?_)
    refine lv_iload hx hb dX6_carriesOut_59 (lv_at hl 0 rfl) ?_
    refine lv_if_eq (tgt := 80) hx hb dX6_carriesOut_61 (by decide) (fun cc_18 => ?_) (fun cc_18 => ?_)
    · have h := (if_pos cc_18).symm.trans h
      refine lv_iload hx hb dX6_carriesOut_80 (lv_at hl 0 rfl) ?_
      obtain ⟨hbz, h⟩ := ob_if h
      have hq := Option.some.inj h
      clear h
      obtain ⟨e0, hq0⟩ := Prod.mk.inj hq
      clear hq
      subst e0
      subst hq0
      exact k_retZ hx hb hr hlocks (isb_or hbz) hP hD hS dX6_carriesOut_82
    · have h := (if_neg cc_18).symm.trans h
      refine lv_aload_n hx hb dX6_carriesOut_64 rfl (lv_at hl 1 rfl) ?_
      refine lv_iload_n hx hb dX6_carriesOut_65 rfl (lv_at hl 3 rfl) ?_
      refine lv_iload_n hx hb dX6_carriesOut_66 rfl (lv_at hl 4 rfl) ?_
      refine lv_aload_n hx hb dX6_carriesOut_67 rfl (lv_at hl 1 rfl) ?_
      refine va_get (D := D) (ci := 6) (v := .ref qm_commands) (C := RX6) (T := TX6) (N := 29) hx hb hu k_iX6 hown hK hP 0 rfl rfl 26 (by decide) (hu _ u_744) (fun _ h9 => h9) rfl dX6_carriesOut_68 ?_
      refine lv_iconst (v := (4 : Int32)) hx hb dX6_carriesOut_71 (by decide) ?_
      refine lv_iload_n hx hb dX6_carriesOut_72 rfl (lv_at hl 2 rfl) ?_
      refine lv_imul hx hb dX6_carriesOut_73 ?_
      refine lv_iconst (v := (3 : Int32)) hx hb dX6_carriesOut_74 (by decide) ?_
      refine lv_iadd hx hb dX6_carriesOut_75 ?_
      obtain ⟨hin_19, h⟩ := ob_if h
      have hin_19 := inb_in hin_19
      refine va_iald (D := D) hx hb hK hP 2 0 rfl rfl hin_19 dX6_carriesOut_76 ?_
      obtain ⟨o_20, hc_21, h⟩ := ob_bind h
      refine k_callVV (qb := 0) [0, 1] [1] [1] [(qm_w, .inl (cI, 93, .inl o_20))] (As := [.int x2, .int x3, .int (m_commands (Int32.toNatClampNeg (((4 : Int32) * x1) + (3 : Int32))))]) (rest := []) ⟨hx, hb, hml, hown, hts⟩ hT hZ hA hP hD hS (c_X6_append l D cI cZ cN aK aV qm qm_w qm_past qm_images qm_text qm_may qm_least qm_isCarried qm_list qm_nodes qm_kept qm_keptLow qm_keptHigh qm_keptNodes qm_numbers qm_sums qm_commands qm_held m_w m_pastMany m_filled m_length m_listMany m_went m_cost m_cause m_looks m_isSent m_isOld m_keptMany m_commandMany x2 x3 (m_commands (Int32.toNatClampNeg (((4 : Int32) * x1) + (3 : Int32)))) o_20 hc_21) ⟨callB_of 3 hts (k_good u_844) rfl rfl rfl (hu _ u_51) (hu _ u_841) (by decide +kernel) ⟨Nat.le_of_ble_eq_true rfl, Nat.le_of_ble_eq_true rfl⟩, hu _ u_843, hu _ u_24⟩ rfl rfl rfl (by decide) (by decide) (by decide) rfl rfl rfl rfl hl.1 rfl (Nat.le_of_ble_eq_true rfl) dX6_carriesOut_77 (fun H locs hP hD hS => ?_)
      have hP : va_P D vwCl [(qm, .inr (6, [.ref qm_w, .ref qm_past, .int m_pastMany, .ref qm_images, .int m_filled, .ref qm_text, .int m_length, .ref qm_may, .ref qm_least, .ref qm_isCarried, .ref qm_list, .ref qm_nodes, .int m_listMany, .int m_went, .int m_cost, .int m_cause, .int m_looks, .int m_isSent, .int m_isOld, .ref qm_kept, .ref qm_keptLow, .ref qm_keptHigh, .int m_keptMany, .ref qm_keptNodes, .ref qm_numbers, .ref qm_sums, .ref qm_commands, .int m_commandMany, .ref qm_held])), (qm_w, .inl (cI, 93, .inl o_20)), (qm_commands, .inl (cI, 320, .inl m_commands))] H := hP
      have hD : va_D A [(qm, .inr (6, [.ref qm_w, .ref qm_past, .int m_pastMany, .ref qm_images, .int m_filled, .ref qm_text, .int m_length, .ref qm_may, .ref qm_least, .ref qm_isCarried, .ref qm_list, .ref qm_nodes, .int m_listMany, .int m_went, .int m_cost, .int m_cause, .int m_looks, .int m_isSent, .int m_isOld, .ref qm_kept, .ref qm_keptLow, .ref qm_keptHigh, .int m_keptMany, .ref qm_keptNodes, .ref qm_numbers, .ref qm_sums, .ref qm_commands, .int m_commandMany, .ref qm_held])), (qm_w, .inl (cI, 93, .inl o_20)), (qm_commands, .inl (cI, 320, .inl m_commands))] := hD
      refine lv_iload hx hb dX6_carriesOut_80 (lv_at hl 0 rfl) ?_
      obtain ⟨hbz, h⟩ := ob_if h
      have hq := Option.some.inj h
      clear h
      obtain ⟨e0, hq0⟩ := Prod.mk.inj hq
      clear hq
      subst e0
      subst hq0
      exact k_retZ hx hb hr hlocks (isb_or hbz) hP hD hS dX6_carriesOut_82
  refine lv_aload_n hx hb dX6_carriesOut_0 rfl (lv_at hl 0 rfl) ?_
  refine va_get (D := D) (ci := 6) (v := .ref qm_commands) (C := RX6) (T := TX6) (N := 29) hx hb hu k_iX6 hown hK hP 0 rfl rfl 26 (by decide) (hu _ u_744) (fun _ h9 => h9) rfl dX6_carriesOut_1 ?_
  refine lv_iconst (v := (4 : Int32)) hx hb dX6_carriesOut_4 (by decide) ?_
  refine lv_iload_n hx hb dX6_carriesOut_5 rfl (lv_at hl 1 rfl) ?_
  refine lv_imul hx hb dX6_carriesOut_6 ?_
  refine lv_iconst (v := (1 : Int32)) hx hb dX6_carriesOut_7 (by decide) ?_
  refine lv_iadd hx hb dX6_carriesOut_8 ?_
  obtain ⟨hin_1, h⟩ := ob_if h
  have hin_1 := inb_in hin_1
  refine va_iald (D := D) hx hb hK hP 2 0 rfl rfl hin_1 dX6_carriesOut_9 ?_
  refine lv_istore_n (lv' := [(2, .int (m_commands (Int32.toNatClampNeg (((4 : Int32) * p1) + (1 : Int32))))), (0, .ref qm), (1, .int p1)]) hx hb dX6_carriesOut_10 rfl hl (by decide) rfl (fun ls hl => ?_)
  refine lv_aload_n hx hb dX6_carriesOut_11 rfl (lv_at hl 1 rfl) ?_
  refine va_get (D := D) (ci := 6) (v := .ref qm_commands) (C := RX6) (T := TX6) (N := 29) hx hb hu k_iX6 hown hK hP 0 rfl rfl 26 (by decide) (hu _ u_744) (fun _ h9 => h9) rfl dX6_carriesOut_12 ?_
  refine lv_iconst (v := (4 : Int32)) hx hb dX6_carriesOut_15 (by decide) ?_
  refine lv_iload_n hx hb dX6_carriesOut_16 rfl (lv_at hl 2 rfl) ?_
  refine lv_imul hx hb dX6_carriesOut_17 ?_
  refine lv_iconst (v := (2 : Int32)) hx hb dX6_carriesOut_18 (by decide) ?_
  refine lv_iadd hx hb dX6_carriesOut_19 ?_
  obtain ⟨hin_2, h⟩ := ob_if h
  have hin_2 := inb_in hin_2
  refine va_iald (D := D) hx hb hK hP 2 0 rfl rfl hin_2 dX6_carriesOut_20 ?_
  refine lv_istore_n (lv' := [(3, .int (m_commands (Int32.toNatClampNeg (((4 : Int32) * p1) + (2 : Int32))))), (2, .int (m_commands (Int32.toNatClampNeg (((4 : Int32) * p1) + (1 : Int32))))), (0, .ref qm), (1, .int p1)]) hx hb dX6_carriesOut_21 rfl hl (by decide) rfl (fun ls hl => ?_)
  refine lv_aload_n hx hb dX6_carriesOut_22 rfl (lv_at hl 2 rfl) ?_
  refine va_get (D := D) (ci := 6) (v := .ref qm_commands) (C := RX6) (T := TX6) (N := 29) hx hb hu k_iX6 hown hK hP 0 rfl rfl 26 (by decide) (hu _ u_744) (fun _ h9 => h9) rfl dX6_carriesOut_23 ?_
  refine lv_iconst (v := (4 : Int32)) hx hb dX6_carriesOut_26 (by decide) ?_
  refine lv_iload_n hx hb dX6_carriesOut_27 rfl (lv_at hl 3 rfl) ?_
  refine lv_imul hx hb dX6_carriesOut_28 ?_
  obtain ⟨hin_3, h⟩ := ob_if h
  have hin_3 := inb_in hin_3
  refine va_iald (D := D) hx hb hK hP 2 0 rfl rfl hin_3 dX6_carriesOut_29 ?_
  refine lv_if_ne (tgt := 83) hx hb dX6_carriesOut_30 (by decide) (fun cc_4 => ?_) (fun cc_4 => ?_)
  · have h := (if_neg cc_4).symm.trans h
    refine lv_aload_n hx hb dX6_carriesOut_83 rfl (lv_at hl 2 rfl) ?_
    refine va_get (D := D) (ci := 6) (v := .ref qm_commands) (C := RX6) (T := TX6) (N := 29) hx hb hu k_iX6 hown hK hP 0 rfl rfl 26 (by decide) (hu _ u_744) (fun _ h9 => h9) rfl dX6_carriesOut_84 ?_
    refine lv_iconst (v := (4 : Int32)) hx hb dX6_carriesOut_87 (by decide) ?_
    refine lv_iload_n hx hb dX6_carriesOut_88 rfl (lv_at hl 3 rfl) ?_
    refine lv_imul hx hb dX6_carriesOut_89 ?_
    refine va_iald (D := D) hx hb hK hP 2 0 rfl rfl hin_3 dX6_carriesOut_90 ?_
    refine lv_iconst (v := (4 : Int32)) hx hb dX6_carriesOut_91 (by decide) ?_
    refine lv_icmp_ne (tgt := 111) hx hb dX6_carriesOut_92 (by decide) (fun cc_5 => ?_) (fun cc_5 => ?_)
    · have h := (if_neg cc_5).symm.trans h
      refine lv_aload_n hx hb dX6_carriesOut_111 rfl (lv_at hl 2 rfl) ?_
      refine lv_iload_n hx hb dX6_carriesOut_112 rfl (lv_at hl 1 rfl) ?_
      obtain ⟨r_6, hc_7, h⟩ := ob_bind h
      refine k_callVIr (qb := 0) [0, 1] (As := [.int (m_commands (Int32.toNatClampNeg (((4 : Int32) * p1) + (1 : Int32))))]) (rest := []) ⟨hx, hb, hml, hown, hts⟩ hT hZ hA hP hD hS (c_X6_isNode l D cI cZ cN aK aV qm qm_w qm_past qm_images qm_text qm_may qm_least qm_isCarried qm_list qm_nodes qm_kept qm_keptLow qm_keptHigh qm_keptNodes qm_numbers qm_sums qm_commands qm_held m_w m_pastMany m_filled m_length m_listMany m_went m_cost m_cause m_looks m_isSent m_isOld m_keptMany m_commandMany (m_commands (Int32.toNatClampNeg (((4 : Int32) * p1) + (1 : Int32)))) r_6 hc_7) ⟨callB_of 1 hts (k_good u_832) rfl rfl rfl (hu _ u_51) (hu _ u_829) (by decide +kernel) ⟨Nat.le_of_ble_eq_true rfl, Nat.le_of_ble_eq_true rfl⟩, hu _ u_831, hu _ u_21⟩ rfl rfl rfl (by decide) rfl hl.1 rfl (Nat.le_of_ble_eq_true rfl) dX6_carriesOut_113 (fun H locs hP hD hS => ?_)
      refine lv_if_eq (tgt := 136) hx hb dX6_carriesOut_116 (by decide) (fun cc_8 => ?_) (fun cc_8 => ?_)
      · have h := (if_pos cc_8).symm.trans h
        refine lv_bipush (v := (-9 : Int32)) hx hb dX6_carriesOut_136 (by decide) ?_
        exact w138 p1 (-9 : Int32) m_w m_commands _ _ _ hP hD hS (lv_sub hl [2, 3] rfl) h
      · have h := (if_neg cc_8).symm.trans h
        refine lv_aload_n hx hb dX6_carriesOut_119 rfl (lv_at hl 2 rfl) ?_
        refine lv_iload_n hx hb dX6_carriesOut_120 rfl (lv_at hl 0 rfl) ?_
        obtain ⟨r_9, hc_10, h⟩ := ob_bind h
        refine k_callVIr (qb := 0) [0, 1] (As := [.int (m_commands (Int32.toNatClampNeg (((4 : Int32) * p1) + (2 : Int32))))]) (rest := []) ⟨hx, hb, hml, hown, hts⟩ hT hZ hA hP hD hS (c_X6_isNode l D cI cZ cN aK aV qm qm_w qm_past qm_images qm_text qm_may qm_least qm_isCarried qm_list qm_nodes qm_kept qm_keptLow qm_keptHigh qm_keptNodes qm_numbers qm_sums qm_commands qm_held m_w m_pastMany m_filled m_length m_listMany m_went m_cost m_cause m_looks m_isSent m_isOld m_keptMany m_commandMany (m_commands (Int32.toNatClampNeg (((4 : Int32) * p1) + (2 : Int32)))) r_9 hc_10) ⟨callB_of 1 hts (k_good u_832) rfl rfl rfl (hu _ u_51) (hu _ u_829) (by decide +kernel) ⟨Nat.le_of_ble_eq_true rfl, Nat.le_of_ble_eq_true rfl⟩, hu _ u_831, hu _ u_21⟩ rfl rfl rfl (by decide) rfl hl.1 rfl (Nat.le_of_ble_eq_true rfl) dX6_carriesOut_121 (fun H locs hP hD hS => ?_)
        refine lv_if_eq (tgt := 136) hx hb dX6_carriesOut_124 (by decide) (fun cc_11 => ?_) (fun cc_11 => ?_)
        · have h := (if_pos cc_11).symm.trans h
          refine lv_bipush (v := (-9 : Int32)) hx hb dX6_carriesOut_136 (by decide) ?_
          exact w138 p1 (-9 : Int32) m_w m_commands _ _ _ hP hD hS (lv_sub hl [2, 3] rfl) h
        · have h := (if_neg cc_11).symm.trans h
          refine lv_aload_n hx hb dX6_carriesOut_127 rfl (lv_at hl 2 rfl) ?_
          refine lv_iload_n hx hb dX6_carriesOut_128 rfl (lv_at hl 1 rfl) ?_
          refine lv_iload_n hx hb dX6_carriesOut_129 rfl (lv_at hl 0 rfl) ?_
          obtain ⟨r_12, hc_13, h⟩ := ob_bind h
          refine k_callVIr (qb := 0) [0, 1] (As := [.int (m_commands (Int32.toNatClampNeg (((4 : Int32) * p1) + (1 : Int32)))), .int (m_commands (Int32.toNatClampNeg (((4 : Int32) * p1) + (2 : Int32))))]) (rest := []) ⟨hx, hb, hml, hown, hts⟩ hT hZ hA hP hD hS (c_X6_linkOf l D cI cZ cN aK aV qm qm_w qm_past qm_images qm_text qm_may qm_least qm_isCarried qm_list qm_nodes qm_kept qm_keptLow qm_keptHigh qm_keptNodes qm_numbers qm_sums qm_commands qm_held m_w m_pastMany m_filled m_length m_listMany m_went m_cost m_cause m_looks m_isSent m_isOld m_keptMany m_commandMany (m_commands (Int32.toNatClampNeg (((4 : Int32) * p1) + (1 : Int32)))) (m_commands (Int32.toNatClampNeg (((4 : Int32) * p1) + (2 : Int32)))) r_12 hc_13) ⟨callB_of 2 hts (k_good u_836) rfl rfl rfl (hu _ u_51) (hu _ u_833) (by decide +kernel) ⟨Nat.le_of_ble_eq_true rfl, Nat.le_of_ble_eq_true rfl⟩, hu _ u_835, hu _ u_22⟩ rfl rfl rfl (by decide) rfl hl.1 rfl (Nat.le_of_ble_eq_true rfl) dX6_carriesOut_130 (fun H locs hP hD hS => ?_)
          refine lv_goto (tgt := 138) hx hb dX6_carriesOut_133 (by decide) ?_
          exact w138 p1 r_12 m_w m_commands _ _ _ hP hD hS (lv_sub hl [2, 3] rfl) h
    · have h := (if_pos cc_5).symm.trans h
      refine lv_aload_n hx hb dX6_carriesOut_95 rfl (lv_at hl 2 rfl) ?_
      refine va_get (D := D) (ci := 6) (v := .ref qm_w) (C := RX6) (T := TX6) (N := 29) hx hb hu k_iX6 hown hK hP 0 rfl rfl 0 (by decide) (hu _ u_718) (fun _ h9 => h9) rfl dX6_carriesOut_96 ?_
      refine lv_iconst (v := (0 : Int32)) hx hb dX6_carriesOut_99 (by decide) ?_
      refine lv_iload_n hx hb dX6_carriesOut_100 rfl (lv_at hl 1 rfl) ?_
      refine va_iast (D := D) hx hb hK hP hD hS 1 0 rfl rfl (inb_in (by decide)) dX6_carriesOut_101 (fun H locs hP hD hS => ?_)
      have hP : va_P D vwCl [(qm, .inr (6, [.ref qm_w, .ref qm_past, .int m_pastMany, .ref qm_images, .int m_filled, .ref qm_text, .int m_length, .ref qm_may, .ref qm_least, .ref qm_isCarried, .ref qm_list, .ref qm_nodes, .int m_listMany, .int m_went, .int m_cost, .int m_cause, .int m_looks, .int m_isSent, .int m_isOld, .ref qm_kept, .ref qm_keptLow, .ref qm_keptHigh, .int m_keptMany, .ref qm_keptNodes, .ref qm_numbers, .ref qm_sums, .ref qm_commands, .int m_commandMany, .ref qm_held])), (qm_w, .inl (cI, 93, .inl (upd m_w (Int32.toNatClampNeg (0 : Int32)) (m_commands (Int32.toNatClampNeg (((4 : Int32) * p1) + (1 : Int32))))))), (qm_commands, .inl (cI, 320, .inl m_commands))] H := hP
      have hD : va_D A [(qm, .inr (6, [.ref qm_w, .ref qm_past, .int m_pastMany, .ref qm_images, .int m_filled, .ref qm_text, .int m_length, .ref qm_may, .ref qm_least, .ref qm_isCarried, .ref qm_list, .ref qm_nodes, .int m_listMany, .int m_went, .int m_cost, .int m_cause, .int m_looks, .int m_isSent, .int m_isOld, .ref qm_kept, .ref qm_keptLow, .ref qm_keptHigh, .int m_keptMany, .ref qm_keptNodes, .ref qm_numbers, .ref qm_sums, .ref qm_commands, .int m_commandMany, .ref qm_held])), (qm_w, .inl (cI, 93, .inl (upd m_w (Int32.toNatClampNeg (0 : Int32)) (m_commands (Int32.toNatClampNeg (((4 : Int32) * p1) + (1 : Int32))))))), (qm_commands, .inl (cI, 320, .inl m_commands))] := hD
      refine lv_aload_n hx hb dX6_carriesOut_102 rfl (lv_at hl 2 rfl) ?_
      refine va_get (D := D) (ci := 6) (v := .ref qm_w) (C := RX6) (T := TX6) (N := 29) hx hb hu k_iX6 hown hK hP 0 rfl rfl 0 (by decide) (hu _ u_718) (fun _ h9 => h9) rfl dX6_carriesOut_103 ?_
      refine lv_iconst (v := (1 : Int32)) hx hb dX6_carriesOut_106 (by decide) ?_
      refine lv_iconst (v := (0 : Int32)) hx hb dX6_carriesOut_107 (by decide) ?_
      refine va_iast (D := D) hx hb hK hP hD hS 1 0 rfl rfl (inb_in (by decide)) dX6_carriesOut_108 (fun H locs hP hD hS => ?_)
      have hP : va_P D vwCl [(qm, .inr (6, [.ref qm_w, .ref qm_past, .int m_pastMany, .ref qm_images, .int m_filled, .ref qm_text, .int m_length, .ref qm_may, .ref qm_least, .ref qm_isCarried, .ref qm_list, .ref qm_nodes, .int m_listMany, .int m_went, .int m_cost, .int m_cause, .int m_looks, .int m_isSent, .int m_isOld, .ref qm_kept, .ref qm_keptLow, .ref qm_keptHigh, .int m_keptMany, .ref qm_keptNodes, .ref qm_numbers, .ref qm_sums, .ref qm_commands, .int m_commandMany, .ref qm_held])), (qm_w, .inl (cI, 93, .inl (upd (upd m_w (Int32.toNatClampNeg (0 : Int32)) (m_commands (Int32.toNatClampNeg (((4 : Int32) * p1) + (1 : Int32))))) (Int32.toNatClampNeg (1 : Int32)) (0 : Int32)))), (qm_commands, .inl (cI, 320, .inl m_commands))] H := hP
      have hD : va_D A [(qm, .inr (6, [.ref qm_w, .ref qm_past, .int m_pastMany, .ref qm_images, .int m_filled, .ref qm_text, .int m_length, .ref qm_may, .ref qm_least, .ref qm_isCarried, .ref qm_list, .ref qm_nodes, .int m_listMany, .int m_went, .int m_cost, .int m_cause, .int m_looks, .int m_isSent, .int m_isOld, .ref qm_kept, .ref qm_keptLow, .ref qm_keptHigh, .int m_keptMany, .ref qm_keptNodes, .ref qm_numbers, .ref qm_sums, .ref qm_commands, .int m_commandMany, .ref qm_held])), (qm_w, .inl (cI, 93, .inl (upd (upd m_w (Int32.toNatClampNeg (0 : Int32)) (m_commands (Int32.toNatClampNeg (((4 : Int32) * p1) + (1 : Int32))))) (Int32.toNatClampNeg (1 : Int32)) (0 : Int32)))), (qm_commands, .inl (cI, 320, .inl m_commands))] := hD
      refine lv_iconst (v := (1 : Int32)) hx hb dX6_carriesOut_109 (by decide) ?_
      have hq := Option.some.inj h
      clear h
      obtain ⟨e0, hq0⟩ := Prod.mk.inj hq
      clear hq
      subst e0
      subst hq0
      exact k_retZ hx hb hr hlocks (Or.inr rfl) hP hD hS dX6_carriesOut_110
  · have h := (if_pos cc_4).symm.trans h
    refine lv_aload_n hx hb dX6_carriesOut_33 rfl (lv_at hl 2 rfl) ?_
    refine lv_iload_n hx hb dX6_carriesOut_34 rfl (lv_at hl 1 rfl) ?_
    refine lv_iload_n hx hb dX6_carriesOut_35 rfl (lv_at hl 0 rfl) ?_
    refine lv_aload_n hx hb dX6_carriesOut_36 rfl (lv_at hl 2 rfl) ?_
    refine va_get (D := D) (ci := 6) (v := .ref qm_commands) (C := RX6) (T := TX6) (N := 29) hx hb hu k_iX6 hown hK hP 0 rfl rfl 26 (by decide) (hu _ u_744) (fun _ h9 => h9) rfl dX6_carriesOut_37 ?_
    refine lv_iconst (v := (4 : Int32)) hx hb dX6_carriesOut_40 (by decide) ?_
    refine lv_iload_n hx hb dX6_carriesOut_41 rfl (lv_at hl 3 rfl) ?_
    refine lv_imul hx hb dX6_carriesOut_42 ?_
    refine lv_iconst (v := (3 : Int32)) hx hb dX6_carriesOut_43 (by decide) ?_
    refine lv_iadd hx hb dX6_carriesOut_44 ?_
    obtain ⟨hin_14, h⟩ := ob_if h
    have hin_14 := inb_in hin_14
    refine va_iald (D := D) hx hb hK hP 2 0 rfl rfl hin_14 dX6_carriesOut_45 ?_
    obtain ⟨r_15, hc_16, h⟩ := ob_bind h
    refine k_callVIr (qb := 0) [0, 1] (As := [.int (m_commands (Int32.toNatClampNeg (((4 : Int32) * p1) + (1 : Int32)))), .int (m_commands (Int32.toNatClampNeg (((4 : Int32) * p1) + (2 : Int32)))), .int (m_commands (Int32.toNatClampNeg (((4 : Int32) * p1) + (3 : Int32))))]) (rest := []) ⟨hx, hb, hml, hown, hts⟩ hT hZ hA hP hD hS (c_X6_faultOfAdd l D cI cZ cN aK aV qm qm_w qm_past qm_images qm_text qm_may qm_least qm_isCarried qm_list qm_nodes qm_kept qm_keptLow qm_keptHigh qm_keptNodes qm_numbers qm_sums qm_commands qm_held m_w m_pastMany m_filled m_length m_listMany m_went m_cost m_cause m_looks m_isSent m_isOld m_keptMany m_commandMany (m_commands (Int32.toNatClampNeg (((4 : Int32) * p1) + (1 : Int32)))) (m_commands (Int32.toNatClampNeg (((4 : Int32) * p1) + (2 : Int32)))) (m_commands (Int32.toNatClampNeg (((4 : Int32) * p1) + (3 : Int32)))) r_15 hc_16) ⟨callB_of 3 hts (k_good u_828) rfl rfl rfl (hu _ u_51) (hu _ u_825) (by decide +kernel) ⟨Nat.le_of_ble_eq_true rfl, Nat.le_of_ble_eq_true rfl⟩, hu _ u_827, hu _ u_20⟩ rfl rfl rfl (by decide) rfl hl.1 rfl (Nat.le_of_ble_eq_true rfl) dX6_carriesOut_46 (fun H locs hP hD hS => ?_)
    refine lv_if_ne (tgt := 56) hx hb dX6_carriesOut_49 (by decide) (fun cc_17 => ?_) (fun cc_17 => ?_)
    · have h := (if_neg cc_17).symm.trans h
      refine lv_iconst (v := (0 : Int32)) hx hb dX6_carriesOut_56 (by decide) ?_
      exact w57 p1 (m_commands (Int32.toNatClampNeg (((4 : Int32) * p1) + (1 : Int32)))) (m_commands (Int32.toNatClampNeg (((4 : Int32) * p1) + (2 : Int32)))) (0 : Int32) m_w m_commands _ _ _ hP hD hS (lv_sub hl [2, 3, 1, 0] rfl) h
    · have h := (if_pos cc_17).symm.trans h
      refine lv_iconst (v := (1 : Int32)) hx hb dX6_carriesOut_52 (by decide) ?_
      refine lv_goto (tgt := 57) hx hb dX6_carriesOut_53 (by decide) ?_
      exact w57 p1 (m_commands (Int32.toNatClampNeg (((4 : Int32) * p1) + (1 : Int32)))) (m_commands (Int32.toNatClampNeg (((4 : Int32) * p1) + (2 : Int32)))) (1 : Int32) m_w m_commands _ _ _ hP hD hS (lv_sub hl [2, 3, 1, 0] rfl) h
def f_X6_execute_b58  : Nat → Int32 → Int32 → (Nat → Int32) → (Nat → Int32) → Int32 → (Nat → Int32) → Int32 → Int32 → (Nat → Int32) → Int32 → (Nat → Int32) → Option (Int32 × (Nat → Int32) × (Nat → Int32) × Int32 × Int32 × (Nat → Int32) × Int32 × (Nat → Int32))
  | 0, _, _, _, _, _, _, _, _, _, _, _ => none
  | n + 1, x1, x2, m_w, m_past, m_pastMany, m_text, m_length, m_isOld, m_commands, m_commandMany, m_held =>
    if (93 : Int32) ≤ x2 then
      some (((-100 : Int32) - x1), m_w, m_past, m_pastMany, m_isOld, m_commands, m_commandMany, m_held)
    else
      if inb x2 93 = true then
      (f_X6_execute_b58 n) x1 (x2 + (1 : Int32)) (upd m_w (Int32.toNatClampNeg x2) (m_held (Int32.toNatClampNeg x2))) m_past m_pastMany m_text m_length m_isOld m_commands m_commandMany m_held
      else none
def f_X6_execute_b40  : Nat → Int32 → (Nat → Int32) → (Nat → Int32) → Int32 → (Nat → Int32) → Int32 → Int32 → (Nat → Int32) → Int32 → (Nat → Int32) → Option (Int32 × (Nat → Int32) × (Nat → Int32) × Int32 × Int32 × (Nat → Int32) × Int32 × (Nat → Int32))
  | 0, _, _, _, _, _, _, _, _, _, _ => none
  | n + 1, x1, m_w, m_past, m_pastMany, m_text, m_length, m_isOld, m_commands, m_commandMany, m_held =>
    if m_commandMany ≤ x1 then
      (f_X6_recordH m_past m_pastMany m_held).bind fun ⟨o_9, o_10⟩ =>
      some (m_commandMany, m_w, o_9, o_10, (1 : Int32), m_commands, m_commandMany, m_held)
    else
      (f_X6_carriesOut x1 m_w m_commands).bind fun ⟨r_12, o_13⟩ =>
      if r_12 = (0 : Int32) then
        f_X6_execute_b58 1000 x1 (0 : Int32) o_13 m_past m_pastMany m_text m_length m_isOld m_commands m_commandMany m_held
      else
        (f_X6_execute_b40 n) (x1 + (1 : Int32)) o_13 m_past m_pastMany m_text m_length m_isOld m_commands m_commandMany m_held
def f_X6_execute_b14  : Nat → Int32 → (Nat → Int32) → (Nat → Int32) → Int32 → (Nat → Int32) → Int32 → Int32 → (Nat → Int32) → Int32 → (Nat → Int32) → Option (Int32 × (Nat → Int32) × (Nat → Int32) × Int32 × Int32 × (Nat → Int32) × Int32 × (Nat → Int32))
  | 0, _, _, _, _, _, _, _, _, _, _ => none
  | n + 1, x1, m_w, m_past, m_pastMany, m_text, m_length, m_isOld, m_commands, m_commandMany, m_held =>
    if (93 : Int32) ≤ x1 then
      f_X6_execute_b40 1000 (0 : Int32) m_w m_past m_pastMany m_text m_length m_isOld m_commands m_commandMany m_held
    else
      if inb x1 93 = true then
      (f_X6_execute_b14 n) (x1 + (1 : Int32)) m_w m_past m_pastMany m_text m_length m_isOld m_commands m_commandMany (upd m_held (Int32.toNatClampNeg x1) (m_w (Int32.toNatClampNeg x1)))
      else none
def f_X6_execute (m_w : (Nat → Int32)) (m_past : (Nat → Int32)) (m_pastMany : Int32) (m_text : (Nat → Int32)) (m_length : Int32) (m_isOld : Int32) (m_commands : (Nat → Int32)) (m_commandMany : Int32) (m_held : (Nat → Int32)) : Option (Int32 × (Nat → Int32) × (Nat → Int32) × Int32 × Int32 × (Nat → Int32) × Int32 × (Nat → Int32)) :=
  (f_X6_read m_text m_length m_commands m_commandMany).bind fun ⟨r_1, o_2, o_3⟩ =>
  if r_1 = (-9 : Int32) then
    f_X6_execute_b14 1000 (0 : Int32) m_w m_past m_pastMany m_text m_length m_isOld o_2 o_3 m_held
  else
    some ((-2 : Int32), m_w, m_past, m_pastMany, m_isOld, o_2, o_3, m_held)
set_option maxHeartbeats 4000000 in
set_option maxRecDepth 100000 in
theorem c_X6_execute (l : Launch) (D : va_G) (cI cZ cN : ClassId) (aK aV : Nat → Nat)  (qm : Nat) (qm_w : Nat) (qm_past : Nat) (qm_images : Nat) (qm_text : Nat) (qm_may : Nat) (qm_least : Nat) (qm_isCarried : Nat) (qm_list : Nat) (qm_nodes : Nat) (qm_kept : Nat) (qm_keptLow : Nat) (qm_keptHigh : Nat) (qm_keptNodes : Nat) (qm_numbers : Nat) (qm_sums : Nat) (qm_commands : Nat) (qm_held : Nat) (m_w : (Nat → Int32)) (m_past : (Nat → Int32)) (m_pastMany : Int32) (m_filled : Int32) (m_text : (Nat → Int32)) (m_length : Int32) (m_listMany : Int32) (m_went : Int32) (m_cost : Int32) (m_cause : Int32) (m_looks : Int32) (m_isSent : Int32) (m_isOld : Int32) (m_keptMany : Int32) (m_commands : (Nat → Int32)) (m_commandMany : Int32) (m_held : (Nat → Int32)) (r : Int32) (z_m_w : (Nat → Int32)) (z_m_past : (Nat → Int32)) (z_m_pastMany : Int32) (z_m_isOld : Int32) (z_m_commands : (Nat → Int32)) (z_m_commandMany : Int32) (z_m_held : (Nat → Int32)) (h : f_X6_execute m_w m_past m_pastMany m_text m_length m_isOld m_commands m_commandMany m_held = some (r, z_m_w, z_m_past, z_m_pastMany, z_m_isOld, z_m_commands, z_m_commandMany, z_m_held)) : CtI l D cI cZ cN aK aV yX6_execute (k_W yX6_execute cX6_execute 3 (some .int)) { frames := 4, cells := 0, slots := 0, locals := 93 } [.ref qm] [(qm, .inr (6, [.ref qm_w, .ref qm_past, .int m_pastMany, .ref qm_images, .int m_filled, .ref qm_text, .int m_length, .ref qm_may, .ref qm_least, .ref qm_isCarried, .ref qm_list, .ref qm_nodes, .int m_listMany, .int m_went, .int m_cost, .int m_cause, .int m_looks, .int m_isSent, .int m_isOld, .ref qm_kept, .ref qm_keptLow, .ref qm_keptHigh, .int m_keptMany, .ref qm_keptNodes, .ref qm_numbers, .ref qm_sums, .ref qm_commands, .int m_commandMany, .ref qm_held])), (qm_w, .inl (cI, 93, .inl m_w)), (qm_past, .inl (cI, 744, .inl m_past)), (qm_text, .inl (cI, 80, .inl m_text)), (qm_commands, .inl (cI, 320, .inl m_commands)), (qm_held, .inl (cI, 93, .inl m_held))] r [(qm, .inr (6, [.ref qm_w, .ref qm_past, .int z_m_pastMany, .ref qm_images, .int m_filled, .ref qm_text, .int m_length, .ref qm_may, .ref qm_least, .ref qm_isCarried, .ref qm_list, .ref qm_nodes, .int m_listMany, .int m_went, .int m_cost, .int m_cause, .int m_looks, .int m_isSent, .int z_m_isOld, .ref qm_kept, .ref qm_keptLow, .ref qm_keptHigh, .int m_keptMany, .ref qm_keptNodes, .ref qm_numbers, .ref qm_sums, .ref qm_commands, .int z_m_commandMany, .ref qm_held])), (qm_w, .inl (cI, 93, .inl z_m_w)), (qm_past, .inl (cI, 744, .inl z_m_past)), (qm_text, .inl (cI, 80, .inl m_text)), (qm_commands, .inl (cI, 320, .inl z_m_commands)), (qm_held, .inl (cI, 93, .inl z_m_held))] := by
  refine k_startI (by decide) (Nat.le_of_ble_eq_true rfl) ?_
  intro p e s m below meth c A ls hx hb hr hml hown hts hlocks hT hZ hA hP hD hS hl
  have hK := hT.1
  have hu : ∀ w ∈ k_U, w.before ([.ref qm] : List Value).toArray s = true := fun w h => hts w (List.mem_cons_of_mem _ h)
  have hown : s.vm.findClass RX6 = some m.cls := hown
  have hl : lv_has ls 3 [(0, .ref qm)] := hl
  unfold f_X6_execute at h
  have w14 : ∀ (n14 : Nat) (x1 : Int32) (m_w : (Nat → Int32)) (m_past : (Nat → Int32)) (m_pastMany : Int32) (m_text : (Nat → Int32)) (m_length : Int32) (m_isOld : Int32) (m_commands : (Nat → Int32)) (m_commandMany : Int32) (m_held : (Nat → Int32)) (H : Heap) (locs : List Loc) (ls : Array Slot), va_P D vwCl [(qm, .inr (6, [.ref qm_w, .ref qm_past, .int m_pastMany, .ref qm_images, .int m_filled, .ref qm_text, .int m_length, .ref qm_may, .ref qm_least, .ref qm_isCarried, .ref qm_list, .ref qm_nodes, .int m_listMany, .int m_went, .int m_cost, .int m_cause, .int m_looks, .int m_isSent, .int m_isOld, .ref qm_kept, .ref qm_keptLow, .ref qm_keptHigh, .int m_keptMany, .ref qm_keptNodes, .ref qm_numbers, .ref qm_sums, .ref qm_commands, .int m_commandMany, .ref qm_held])), (qm_w, .inl (cI, 93, .inl m_w)), (qm_past, .inl (cI, 744, .inl m_past)), (qm_text, .inl (cI, 80, .inl m_text)), (qm_commands, .inl (cI, 320, .inl m_commands)), (qm_held, .inl (cI, 93, .inl m_held))] H → va_D A [(qm, .inr (6, [.ref qm_w, .ref qm_past, .int m_pastMany, .ref qm_images, .int m_filled, .ref qm_text, .int m_length, .ref qm_may, .ref qm_least, .ref qm_isCarried, .ref qm_list, .ref qm_nodes, .int m_listMany, .int m_went, .int m_cost, .int m_cause, .int m_looks, .int m_isSent, .int m_isOld, .ref qm_kept, .ref qm_keptLow, .ref qm_keptHigh, .int m_keptMany, .ref qm_keptNodes, .ref qm_numbers, .ref qm_sums, .ref qm_commands, .int m_commandMany, .ref qm_held])), (qm_w, .inl (cI, 93, .inl m_w)), (qm_past, .inl (cI, 744, .inl m_past)), (qm_text, .inl (cI, 80, .inl m_text)), (qm_commands, .inl (cI, 320, .inl m_commands)), (qm_held, .inl (cI, 93, .inl m_held))] → va_S A s.heap H locs → lv_has ls 3 [(0, .ref qm), (1, .int x1)] → f_X6_execute_b14 n14 x1 m_w m_past m_pastMany m_text m_length m_isOld m_commands m_commandMany m_held = some (r, z_m_w, z_m_past, z_m_pastMany, z_m_isOld, z_m_commands, z_m_commandMany, z_m_held) → W p l e { frames := 4, cells := 0, slots := 0, locals := 93 } s m ([.ref qm] : List Value).toArray below meth c H locs 0 0 (MQ below (k_QI D r [(qm, .inr (6, [.ref qm_w, .ref qm_past, .int z_m_pastMany, .ref qm_images, .int m_filled, .ref qm_text, .int m_length, .ref qm_may, .ref qm_least, .ref qm_isCarried, .ref qm_list, .ref qm_nodes, .int m_listMany, .int m_went, .int m_cost, .int m_cause, .int m_looks, .int m_isSent, .int z_m_isOld, .ref qm_kept, .ref qm_keptLow, .ref qm_keptHigh, .int m_keptMany, .ref qm_keptNodes, .ref qm_numbers, .ref qm_sums, .ref qm_commands, .int z_m_commandMany, .ref qm_held])), (qm_w, .inl (cI, 93, .inl z_m_w)), (qm_past, .inl (cI, 744, .inl z_m_past)), (qm_text, .inl (cI, 80, .inl m_text)), (qm_commands, .inl (cI, 320, .inl z_m_commands)), (qm_held, .inl (cI, 93, .inl z_m_held))] A) ([.ref qm] : List Value).toArray s 0 0 A) (F0 m 14 ls []) := by
    intro n14
    induction n14 with
    | zero =>
      intro x1 m_w m_past m_pastMany m_text m_length m_isOld m_commands m_commandMany m_held H locs ls hP hD hS hl h
      rw [f_X6_execute_b14] at h
      cases h
    | succ n14 ih14 =>
      intro x1 m_w m_past m_pastMany m_text m_length m_isOld m_commands m_commandMany m_held H locs ls hP hD hS hl h
      rw [f_X6_execute_b14] at h
      have w40 : ∀ (n40 : Nat) (x1 : Int32) (m_w : (Nat → Int32)) (m_past : (Nat → Int32)) (m_pastMany : Int32) (m_text : (Nat → Int32)) (m_length : Int32) (m_isOld : Int32) (m_commands : (Nat → Int32)) (m_commandMany : Int32) (m_held : (Nat → Int32)) (H : Heap) (locs : List Loc) (ls : Array Slot), va_P D vwCl [(qm, .inr (6, [.ref qm_w, .ref qm_past, .int m_pastMany, .ref qm_images, .int m_filled, .ref qm_text, .int m_length, .ref qm_may, .ref qm_least, .ref qm_isCarried, .ref qm_list, .ref qm_nodes, .int m_listMany, .int m_went, .int m_cost, .int m_cause, .int m_looks, .int m_isSent, .int m_isOld, .ref qm_kept, .ref qm_keptLow, .ref qm_keptHigh, .int m_keptMany, .ref qm_keptNodes, .ref qm_numbers, .ref qm_sums, .ref qm_commands, .int m_commandMany, .ref qm_held])), (qm_w, .inl (cI, 93, .inl m_w)), (qm_past, .inl (cI, 744, .inl m_past)), (qm_text, .inl (cI, 80, .inl m_text)), (qm_commands, .inl (cI, 320, .inl m_commands)), (qm_held, .inl (cI, 93, .inl m_held))] H → va_D A [(qm, .inr (6, [.ref qm_w, .ref qm_past, .int m_pastMany, .ref qm_images, .int m_filled, .ref qm_text, .int m_length, .ref qm_may, .ref qm_least, .ref qm_isCarried, .ref qm_list, .ref qm_nodes, .int m_listMany, .int m_went, .int m_cost, .int m_cause, .int m_looks, .int m_isSent, .int m_isOld, .ref qm_kept, .ref qm_keptLow, .ref qm_keptHigh, .int m_keptMany, .ref qm_keptNodes, .ref qm_numbers, .ref qm_sums, .ref qm_commands, .int m_commandMany, .ref qm_held])), (qm_w, .inl (cI, 93, .inl m_w)), (qm_past, .inl (cI, 744, .inl m_past)), (qm_text, .inl (cI, 80, .inl m_text)), (qm_commands, .inl (cI, 320, .inl m_commands)), (qm_held, .inl (cI, 93, .inl m_held))] → va_S A s.heap H locs → lv_has ls 3 [(0, .ref qm), (1, .int x1)] → f_X6_execute_b40 n40 x1 m_w m_past m_pastMany m_text m_length m_isOld m_commands m_commandMany m_held = some (r, z_m_w, z_m_past, z_m_pastMany, z_m_isOld, z_m_commands, z_m_commandMany, z_m_held) → W p l e { frames := 4, cells := 0, slots := 0, locals := 93 } s m ([.ref qm] : List Value).toArray below meth c H locs 0 0 (MQ below (k_QI D r [(qm, .inr (6, [.ref qm_w, .ref qm_past, .int z_m_pastMany, .ref qm_images, .int m_filled, .ref qm_text, .int m_length, .ref qm_may, .ref qm_least, .ref qm_isCarried, .ref qm_list, .ref qm_nodes, .int m_listMany, .int m_went, .int m_cost, .int m_cause, .int m_looks, .int m_isSent, .int z_m_isOld, .ref qm_kept, .ref qm_keptLow, .ref qm_keptHigh, .int m_keptMany, .ref qm_keptNodes, .ref qm_numbers, .ref qm_sums, .ref qm_commands, .int z_m_commandMany, .ref qm_held])), (qm_w, .inl (cI, 93, .inl z_m_w)), (qm_past, .inl (cI, 744, .inl z_m_past)), (qm_text, .inl (cI, 80, .inl m_text)), (qm_commands, .inl (cI, 320, .inl z_m_commands)), (qm_held, .inl (cI, 93, .inl z_m_held))] A) ([.ref qm] : List Value).toArray s 0 0 A) (F0 m 40 ls []) := by
        intro n40
        induction n40 with
        | zero =>
          intro x1 m_w m_past m_pastMany m_text m_length m_isOld m_commands m_commandMany m_held H locs ls hP hD hS hl h
          rw [f_X6_execute_b40] at h
          cases h
        | succ n40 ih40 =>
          intro x1 m_w m_past m_pastMany m_text m_length m_isOld m_commands m_commandMany m_held H locs ls hP hD hS hl h
          rw [f_X6_execute_b40] at h
          have w58 : ∀ (n58 : Nat) (x1 : Int32) (x2 : Int32) (m_w : (Nat → Int32)) (m_past : (Nat → Int32)) (m_pastMany : Int32) (m_text : (Nat → Int32)) (m_length : Int32) (m_isOld : Int32) (m_commands : (Nat → Int32)) (m_commandMany : Int32) (m_held : (Nat → Int32)) (H : Heap) (locs : List Loc) (ls : Array Slot), va_P D vwCl [(qm, .inr (6, [.ref qm_w, .ref qm_past, .int m_pastMany, .ref qm_images, .int m_filled, .ref qm_text, .int m_length, .ref qm_may, .ref qm_least, .ref qm_isCarried, .ref qm_list, .ref qm_nodes, .int m_listMany, .int m_went, .int m_cost, .int m_cause, .int m_looks, .int m_isSent, .int m_isOld, .ref qm_kept, .ref qm_keptLow, .ref qm_keptHigh, .int m_keptMany, .ref qm_keptNodes, .ref qm_numbers, .ref qm_sums, .ref qm_commands, .int m_commandMany, .ref qm_held])), (qm_w, .inl (cI, 93, .inl m_w)), (qm_past, .inl (cI, 744, .inl m_past)), (qm_text, .inl (cI, 80, .inl m_text)), (qm_commands, .inl (cI, 320, .inl m_commands)), (qm_held, .inl (cI, 93, .inl m_held))] H → va_D A [(qm, .inr (6, [.ref qm_w, .ref qm_past, .int m_pastMany, .ref qm_images, .int m_filled, .ref qm_text, .int m_length, .ref qm_may, .ref qm_least, .ref qm_isCarried, .ref qm_list, .ref qm_nodes, .int m_listMany, .int m_went, .int m_cost, .int m_cause, .int m_looks, .int m_isSent, .int m_isOld, .ref qm_kept, .ref qm_keptLow, .ref qm_keptHigh, .int m_keptMany, .ref qm_keptNodes, .ref qm_numbers, .ref qm_sums, .ref qm_commands, .int m_commandMany, .ref qm_held])), (qm_w, .inl (cI, 93, .inl m_w)), (qm_past, .inl (cI, 744, .inl m_past)), (qm_text, .inl (cI, 80, .inl m_text)), (qm_commands, .inl (cI, 320, .inl m_commands)), (qm_held, .inl (cI, 93, .inl m_held))] → va_S A s.heap H locs → lv_has ls 3 [(0, .ref qm), (1, .int x1), (2, .int x2)] → f_X6_execute_b58 n58 x1 x2 m_w m_past m_pastMany m_text m_length m_isOld m_commands m_commandMany m_held = some (r, z_m_w, z_m_past, z_m_pastMany, z_m_isOld, z_m_commands, z_m_commandMany, z_m_held) → W p l e { frames := 4, cells := 0, slots := 0, locals := 93 } s m ([.ref qm] : List Value).toArray below meth c H locs 0 0 (MQ below (k_QI D r [(qm, .inr (6, [.ref qm_w, .ref qm_past, .int z_m_pastMany, .ref qm_images, .int m_filled, .ref qm_text, .int m_length, .ref qm_may, .ref qm_least, .ref qm_isCarried, .ref qm_list, .ref qm_nodes, .int m_listMany, .int m_went, .int m_cost, .int m_cause, .int m_looks, .int m_isSent, .int z_m_isOld, .ref qm_kept, .ref qm_keptLow, .ref qm_keptHigh, .int m_keptMany, .ref qm_keptNodes, .ref qm_numbers, .ref qm_sums, .ref qm_commands, .int z_m_commandMany, .ref qm_held])), (qm_w, .inl (cI, 93, .inl z_m_w)), (qm_past, .inl (cI, 744, .inl z_m_past)), (qm_text, .inl (cI, 80, .inl m_text)), (qm_commands, .inl (cI, 320, .inl z_m_commands)), (qm_held, .inl (cI, 93, .inl z_m_held))] A) ([.ref qm] : List Value).toArray s 0 0 A) (F0 m 58 ls []) := by
            intro n58
            induction n58 with
            | zero =>
              intro x1 x2 m_w m_past m_pastMany m_text m_length m_isOld m_commands m_commandMany m_held H locs ls hP hD hS hl h
              rw [f_X6_execute_b58] at h
              cases h
            | succ n58 ih58 =>
              intro x1 x2 m_w m_past m_pastMany m_text m_length m_isOld m_commands m_commandMany m_held H locs ls hP hD hS hl h
              rw [f_X6_execute_b58] at h
              refine lv_iload_n hx hb dX6_execute_58 rfl (lv_at hl 2 rfl) ?_
              refine lv_bipush (v := (93 : Int32)) hx hb dX6_execute_59 (by decide) ?_
              refine lv_icmp_ge (tgt := 82) hx hb dX6_execute_61 (by decide) (fun cc_16 => ?_) (fun cc_16 => ?_)
              · have h := (if_pos cc_16).symm.trans h
                refine lv_bipush (v := (-100 : Int32)) hx hb dX6_execute_82 (by decide) ?_
                refine lv_iload_n hx hb dX6_execute_84 rfl (lv_at hl 1 rfl) ?_
                refine lv_isub hx hb dX6_execute_85 ?_
                have hq := Option.some.inj h
                clear h
                obtain ⟨e0, hq0⟩ := Prod.mk.inj hq
                clear hq
                obtain ⟨e1, hq1⟩ := Prod.mk.inj hq0
                clear hq0
                obtain ⟨e2, hq2⟩ := Prod.mk.inj hq1
                clear hq1
                obtain ⟨e3, hq3⟩ := Prod.mk.inj hq2
                clear hq2
                obtain ⟨e4, hq4⟩ := Prod.mk.inj hq3
                clear hq3
                obtain ⟨e5, hq5⟩ := Prod.mk.inj hq4
                clear hq4
                obtain ⟨e6, hq6⟩ := Prod.mk.inj hq5
                clear hq5
                subst e0
                subst e1
                subst e2
                subst e3
                subst e4
                subst e5
                subst e6
                subst hq6
                exact k_retI hx hb hr hlocks hP hD hS dX6_execute_86
              · have h := (if_neg cc_16).symm.trans h
                refine lv_aload_n hx hb dX6_execute_64 rfl (lv_at hl 0 rfl) ?_
                refine va_get (D := D) (ci := 6) (v := .ref qm_w) (C := RX6) (T := TX6) (N := 29) hx hb hu k_iX6 hown hK hP 0 rfl rfl 0 (by decide) (hu _ u_718) (fun _ h9 => h9) rfl dX6_execute_65 ?_
                refine lv_iload_n hx hb dX6_execute_68 rfl (lv_at hl 2 rfl) ?_
                refine lv_aload_n hx hb dX6_execute_69 rfl (lv_at hl 0 rfl) ?_
                refine va_get (D := D) (ci := 6) (v := .ref qm_held) (C := RX6) (T := TX6) (N := 29) hx hb hu k_iX6 hown hK hP 0 rfl rfl 28 (by decide) (hu _ u_746) (fun _ h9 => h9) rfl dX6_execute_70 ?_
                refine lv_iload_n hx hb dX6_execute_73 rfl (lv_at hl 2 rfl) ?_
                obtain ⟨hin_17, h⟩ := ob_if h
                have hin_17 := inb_in hin_17
                refine va_iald (D := D) hx hb hK hP 5 0 rfl rfl hin_17 dX6_execute_74 ?_
                refine va_iast (D := D) hx hb hK hP hD hS 1 0 rfl rfl hin_17 dX6_execute_75 (fun H locs hP hD hS => ?_)
                have hP : va_P D vwCl [(qm, .inr (6, [.ref qm_w, .ref qm_past, .int m_pastMany, .ref qm_images, .int m_filled, .ref qm_text, .int m_length, .ref qm_may, .ref qm_least, .ref qm_isCarried, .ref qm_list, .ref qm_nodes, .int m_listMany, .int m_went, .int m_cost, .int m_cause, .int m_looks, .int m_isSent, .int m_isOld, .ref qm_kept, .ref qm_keptLow, .ref qm_keptHigh, .int m_keptMany, .ref qm_keptNodes, .ref qm_numbers, .ref qm_sums, .ref qm_commands, .int m_commandMany, .ref qm_held])), (qm_w, .inl (cI, 93, .inl (upd m_w (Int32.toNatClampNeg x2) (m_held (Int32.toNatClampNeg x2))))), (qm_past, .inl (cI, 744, .inl m_past)), (qm_text, .inl (cI, 80, .inl m_text)), (qm_commands, .inl (cI, 320, .inl m_commands)), (qm_held, .inl (cI, 93, .inl m_held))] H := hP
                have hD : va_D A [(qm, .inr (6, [.ref qm_w, .ref qm_past, .int m_pastMany, .ref qm_images, .int m_filled, .ref qm_text, .int m_length, .ref qm_may, .ref qm_least, .ref qm_isCarried, .ref qm_list, .ref qm_nodes, .int m_listMany, .int m_went, .int m_cost, .int m_cause, .int m_looks, .int m_isSent, .int m_isOld, .ref qm_kept, .ref qm_keptLow, .ref qm_keptHigh, .int m_keptMany, .ref qm_keptNodes, .ref qm_numbers, .ref qm_sums, .ref qm_commands, .int m_commandMany, .ref qm_held])), (qm_w, .inl (cI, 93, .inl (upd m_w (Int32.toNatClampNeg x2) (m_held (Int32.toNatClampNeg x2))))), (qm_past, .inl (cI, 744, .inl m_past)), (qm_text, .inl (cI, 80, .inl m_text)), (qm_commands, .inl (cI, 320, .inl m_commands)), (qm_held, .inl (cI, 93, .inl m_held))] := hD
                refine lv_iinc (v := (x2 + (1 : Int32))) (lv' := [(2, .int (x2 + (1 : Int32))), (0, .ref qm), (1, .int x1)]) hx hb dX6_execute_76 hl (k := 2) rfl rfl (by decide) rfl (fun ls hl => ?_)
                refine lv_goto (tgt := 58) hx hb dX6_execute_79 (by decide) ?_
                exact ih58 x1 (x2 + (1 : Int32)) (upd m_w (Int32.toNatClampNeg x2) (m_held (Int32.toNatClampNeg x2))) m_past m_pastMany m_text m_length m_isOld m_commands m_commandMany m_held _ _ _ hP hD hS (lv_sub hl [1, 2, 0] rfl) h
          refine lv_iload_n hx hb dX6_execute_40 rfl (lv_at hl 1 rfl) ?_
          refine lv_aload_n hx hb dX6_execute_41 rfl (lv_at hl 0 rfl) ?_
          refine va_get (D := D) (ci := 6) (v := .int m_commandMany) (C := RX6) (T := TX6) (N := 29) hx hb hu k_iX6 hown hK hP 0 rfl rfl 27 (by decide) (hu _ u_745) (fun _ h9 => h9) rfl dX6_execute_42 ?_
          refine lv_icmp_ge (tgt := 93) hx hb dX6_execute_45 (by decide) (fun cc_8 => ?_) (fun cc_8 => ?_)
          · have h := (if_pos cc_8).symm.trans h
            refine lv_aload_n hx hb dX6_execute_93 rfl (lv_at hl 0 rfl) ?_
            refine lv_aload_n hx hb dX6_execute_94 rfl (lv_at hl 0 rfl) ?_
            refine va_get (D := D) (ci := 6) (v := .ref qm_held) (C := RX6) (T := TX6) (N := 29) hx hb hu k_iX6 hown hK hP 0 rfl rfl 28 (by decide) (hu _ u_746) (fun _ h9 => h9) rfl dX6_execute_95 ?_
            obtain ⟨⟨o_9, o_10⟩, hc_11, h⟩ := ob_bind h
            dsimp only at h
            refine k_callVV (qb := 0) [0, 2, 5] [0, 1] [0, 2] [(qm, .inr (6, [.ref qm_w, .ref qm_past, .int o_10, .ref qm_images, .int m_filled, .ref qm_text, .int m_length, .ref qm_may, .ref qm_least, .ref qm_isCarried, .ref qm_list, .ref qm_nodes, .int m_listMany, .int m_went, .int m_cost, .int m_cause, .int m_looks, .int m_isSent, .int m_isOld, .ref qm_kept, .ref qm_keptLow, .ref qm_keptHigh, .int m_keptMany, .ref qm_keptNodes, .ref qm_numbers, .ref qm_sums, .ref qm_commands, .int m_commandMany, .ref qm_held])), (qm_past, .inl (cI, 744, .inl o_9))] (As := [.ref qm_held]) (rest := []) ⟨hx, hb, hml, hown, hts⟩ hT hZ hA hP hD hS (c_X6_recordH l D cI cZ cN aK aV qm qm_w qm_past qm_images qm_text qm_may qm_least qm_isCarried qm_list qm_nodes qm_kept qm_keptLow qm_keptHigh qm_keptNodes qm_numbers qm_sums qm_commands qm_held m_past m_pastMany m_filled m_length m_listMany m_went m_cost m_cause m_looks m_isSent m_isOld m_keptMany m_commandMany m_held o_9 o_10 hc_11) ⟨callB_of 1 hts (k_good u_820) rfl rfl rfl (hu _ u_51) (hu _ u_817) (by decide +kernel) ⟨Nat.le_of_ble_eq_true rfl, Nat.le_of_ble_eq_true rfl⟩, hu _ u_819, hu _ u_19⟩ rfl rfl rfl (by decide) (by decide) (by decide) rfl rfl rfl rfl hl.1 rfl (Nat.le_of_ble_eq_true rfl) dX6_execute_98 (fun H locs hP hD hS => ?_)
            have hP : va_P D vwCl [(qm, .inr (6, [.ref qm_w, .ref qm_past, .int o_10, .ref qm_images, .int m_filled, .ref qm_text, .int m_length, .ref qm_may, .ref qm_least, .ref qm_isCarried, .ref qm_list, .ref qm_nodes, .int m_listMany, .int m_went, .int m_cost, .int m_cause, .int m_looks, .int m_isSent, .int m_isOld, .ref qm_kept, .ref qm_keptLow, .ref qm_keptHigh, .int m_keptMany, .ref qm_keptNodes, .ref qm_numbers, .ref qm_sums, .ref qm_commands, .int m_commandMany, .ref qm_held])), (qm_w, .inl (cI, 93, .inl m_w)), (qm_past, .inl (cI, 744, .inl o_9)), (qm_text, .inl (cI, 80, .inl m_text)), (qm_commands, .inl (cI, 320, .inl m_commands)), (qm_held, .inl (cI, 93, .inl m_held))] H := hP
            have hD : va_D A [(qm, .inr (6, [.ref qm_w, .ref qm_past, .int o_10, .ref qm_images, .int m_filled, .ref qm_text, .int m_length, .ref qm_may, .ref qm_least, .ref qm_isCarried, .ref qm_list, .ref qm_nodes, .int m_listMany, .int m_went, .int m_cost, .int m_cause, .int m_looks, .int m_isSent, .int m_isOld, .ref qm_kept, .ref qm_keptLow, .ref qm_keptHigh, .int m_keptMany, .ref qm_keptNodes, .ref qm_numbers, .ref qm_sums, .ref qm_commands, .int m_commandMany, .ref qm_held])), (qm_w, .inl (cI, 93, .inl m_w)), (qm_past, .inl (cI, 744, .inl o_9)), (qm_text, .inl (cI, 80, .inl m_text)), (qm_commands, .inl (cI, 320, .inl m_commands)), (qm_held, .inl (cI, 93, .inl m_held))] := hD
            refine lv_aload_n hx hb dX6_execute_101 rfl (lv_at hl 0 rfl) ?_
            refine lv_iconst (v := (1 : Int32)) hx hb dX6_execute_102 (by decide) ?_
            refine va_put (D := D) (ci := 6) (v := .int (1 : Int32)) (ty := .boolean) (C := RX6) (T := TX6) (N := 29) hx hb hu k_iX6 tyX6 tyX6_ok nmX6 hown hK hP hD hS 0 rfl rfl 18 (by decide) (hu _ u_736) (fun _ h9 => h9) rfl (by decide +kernel) rfl rfl (Nat.le_of_ble_eq_true rfl) dX6_execute_103 (fun H locs hP hD hS => ?_)
            have hP : va_P D vwCl [(qm, .inr (6, [.ref qm_w, .ref qm_past, .int o_10, .ref qm_images, .int m_filled, .ref qm_text, .int m_length, .ref qm_may, .ref qm_least, .ref qm_isCarried, .ref qm_list, .ref qm_nodes, .int m_listMany, .int m_went, .int m_cost, .int m_cause, .int m_looks, .int m_isSent, .int (1 : Int32), .ref qm_kept, .ref qm_keptLow, .ref qm_keptHigh, .int m_keptMany, .ref qm_keptNodes, .ref qm_numbers, .ref qm_sums, .ref qm_commands, .int m_commandMany, .ref qm_held])), (qm_w, .inl (cI, 93, .inl m_w)), (qm_past, .inl (cI, 744, .inl o_9)), (qm_text, .inl (cI, 80, .inl m_text)), (qm_commands, .inl (cI, 320, .inl m_commands)), (qm_held, .inl (cI, 93, .inl m_held))] H := hP
            have hD : va_D A [(qm, .inr (6, [.ref qm_w, .ref qm_past, .int o_10, .ref qm_images, .int m_filled, .ref qm_text, .int m_length, .ref qm_may, .ref qm_least, .ref qm_isCarried, .ref qm_list, .ref qm_nodes, .int m_listMany, .int m_went, .int m_cost, .int m_cause, .int m_looks, .int m_isSent, .int (1 : Int32), .ref qm_kept, .ref qm_keptLow, .ref qm_keptHigh, .int m_keptMany, .ref qm_keptNodes, .ref qm_numbers, .ref qm_sums, .ref qm_commands, .int m_commandMany, .ref qm_held])), (qm_w, .inl (cI, 93, .inl m_w)), (qm_past, .inl (cI, 744, .inl o_9)), (qm_text, .inl (cI, 80, .inl m_text)), (qm_commands, .inl (cI, 320, .inl m_commands)), (qm_held, .inl (cI, 93, .inl m_held))] := hD
            refine lv_aload_n hx hb dX6_execute_106 rfl (lv_at hl 0 rfl) ?_
            refine va_get (D := D) (ci := 6) (v := .int m_commandMany) (C := RX6) (T := TX6) (N := 29) hx hb hu k_iX6 hown hK hP 0 rfl rfl 27 (by decide) (hu _ u_745) (fun _ h9 => h9) rfl dX6_execute_107 ?_
            have hq := Option.some.inj h
            clear h
            obtain ⟨e0, hq0⟩ := Prod.mk.inj hq
            clear hq
            obtain ⟨e1, hq1⟩ := Prod.mk.inj hq0
            clear hq0
            obtain ⟨e2, hq2⟩ := Prod.mk.inj hq1
            clear hq1
            obtain ⟨e3, hq3⟩ := Prod.mk.inj hq2
            clear hq2
            obtain ⟨e4, hq4⟩ := Prod.mk.inj hq3
            clear hq3
            obtain ⟨e5, hq5⟩ := Prod.mk.inj hq4
            clear hq4
            obtain ⟨e6, hq6⟩ := Prod.mk.inj hq5
            clear hq5
            subst e0
            subst e1
            subst e2
            subst e3
            subst e4
            subst e5
            subst e6
            subst hq6
            exact k_retI hx hb hr hlocks hP hD hS dX6_execute_110
          · have h := (if_neg cc_8).symm.trans h
            refine lv_aload_n hx hb dX6_execute_48 rfl (lv_at hl 0 rfl) ?_
            refine lv_iload_n hx hb dX6_execute_49 rfl (lv_at hl 1 rfl) ?_
            obtain ⟨⟨r_12, o_13⟩, hc_14, h⟩ := ob_bind h
            dsimp only at h
            refine k_callVI (qb := 0) [0, 1, 4] [1] [1] [(qm_w, .inl (cI, 93, .inl o_13))] (As := [.int x1]) (rest := []) ⟨hx, hb, hml, hown, hts⟩ hT hZ hA hP hD hS (c_X6_carriesOut l D cI cZ cN aK aV qm qm_w qm_past qm_images qm_text qm_may qm_least qm_isCarried qm_list qm_nodes qm_kept qm_keptLow qm_keptHigh qm_keptNodes qm_numbers qm_sums qm_commands qm_held m_w m_pastMany m_filled m_length m_listMany m_went m_cost m_cause m_looks m_isSent m_isOld m_keptMany m_commands m_commandMany x1 r_12 o_13 hc_14) ⟨callB_of 1 hts (k_good u_1016) rfl rfl rfl (hu _ u_51) (hu _ u_1013) (by decide +kernel) ⟨Nat.le_of_ble_eq_true rfl, Nat.le_of_ble_eq_true rfl⟩, hu _ u_1015, hu _ u_43⟩ rfl rfl rfl (by decide) (by decide) (by decide) rfl rfl rfl rfl hl.1 rfl (Nat.le_of_ble_eq_true rfl) dX6_execute_50 (fun H locs hP hD hS => ?_)
            have hP : va_P D vwCl [(qm, .inr (6, [.ref qm_w, .ref qm_past, .int m_pastMany, .ref qm_images, .int m_filled, .ref qm_text, .int m_length, .ref qm_may, .ref qm_least, .ref qm_isCarried, .ref qm_list, .ref qm_nodes, .int m_listMany, .int m_went, .int m_cost, .int m_cause, .int m_looks, .int m_isSent, .int m_isOld, .ref qm_kept, .ref qm_keptLow, .ref qm_keptHigh, .int m_keptMany, .ref qm_keptNodes, .ref qm_numbers, .ref qm_sums, .ref qm_commands, .int m_commandMany, .ref qm_held])), (qm_w, .inl (cI, 93, .inl o_13)), (qm_past, .inl (cI, 744, .inl m_past)), (qm_text, .inl (cI, 80, .inl m_text)), (qm_commands, .inl (cI, 320, .inl m_commands)), (qm_held, .inl (cI, 93, .inl m_held))] H := hP
            have hD : va_D A [(qm, .inr (6, [.ref qm_w, .ref qm_past, .int m_pastMany, .ref qm_images, .int m_filled, .ref qm_text, .int m_length, .ref qm_may, .ref qm_least, .ref qm_isCarried, .ref qm_list, .ref qm_nodes, .int m_listMany, .int m_went, .int m_cost, .int m_cause, .int m_looks, .int m_isSent, .int m_isOld, .ref qm_kept, .ref qm_keptLow, .ref qm_keptHigh, .int m_keptMany, .ref qm_keptNodes, .ref qm_numbers, .ref qm_sums, .ref qm_commands, .int m_commandMany, .ref qm_held])), (qm_w, .inl (cI, 93, .inl o_13)), (qm_past, .inl (cI, 744, .inl m_past)), (qm_text, .inl (cI, 80, .inl m_text)), (qm_commands, .inl (cI, 320, .inl m_commands)), (qm_held, .inl (cI, 93, .inl m_held))] := hD
            refine lv_if_ne (tgt := 87) hx hb dX6_execute_53 (by decide) (fun cc_15 => ?_) (fun cc_15 => ?_)
            · have h := (if_neg cc_15).symm.trans h
              refine lv_iinc (v := (x1 + (1 : Int32))) (lv' := [(1, .int (x1 + (1 : Int32))), (0, .ref qm)]) hx hb dX6_execute_87 hl (k := 1) rfl rfl (by decide) rfl (fun ls hl => ?_)
              refine lv_goto (tgt := 40) hx hb dX6_execute_90 (by decide) ?_
              exact ih40 (x1 + (1 : Int32)) o_13 m_past m_pastMany m_text m_length m_isOld m_commands m_commandMany m_held _ _ _ hP hD hS (lv_sub hl [1, 0] rfl) h
            · have h := (if_pos cc_15).symm.trans h
              refine lv_iconst (v := (0 : Int32)) hx hb dX6_execute_56 (by decide) ?_
              refine lv_istore_n (lv' := [(2, .int (0 : Int32)), (0, .ref qm), (1, .int x1)]) hx hb dX6_execute_57 rfl hl (by decide) rfl (fun ls hl => ?_)
              exact w58 1000 x1 (0 : Int32) o_13 m_past m_pastMany m_text m_length m_isOld m_commands m_commandMany m_held _ _ _ hP hD hS (lv_sub hl [1, 2, 0] rfl) h
      refine lv_iload_n hx hb dX6_execute_14 rfl (lv_at hl 1 rfl) ?_
      refine lv_bipush (v := (93 : Int32)) hx hb dX6_execute_15 (by decide) ?_
      refine lv_icmp_ge (tgt := 38) hx hb dX6_execute_17 (by decide) (fun cc_6 => ?_) (fun cc_6 => ?_)
      · have h := (if_pos cc_6).symm.trans h
        refine lv_iconst (v := (0 : Int32)) hx hb dX6_execute_38 (by decide) ?_
        refine lv_istore_n (lv' := [(1, .int (0 : Int32)), (0, .ref qm)]) hx hb dX6_execute_39 rfl hl (by decide) rfl (fun ls hl => ?_)
        exact w40 1000 (0 : Int32) m_w m_past m_pastMany m_text m_length m_isOld m_commands m_commandMany m_held _ _ _ hP hD hS (lv_sub hl [1, 0] rfl) h
      · have h := (if_neg cc_6).symm.trans h
        refine lv_aload_n hx hb dX6_execute_20 rfl (lv_at hl 0 rfl) ?_
        refine va_get (D := D) (ci := 6) (v := .ref qm_held) (C := RX6) (T := TX6) (N := 29) hx hb hu k_iX6 hown hK hP 0 rfl rfl 28 (by decide) (hu _ u_746) (fun _ h9 => h9) rfl dX6_execute_21 ?_
        refine lv_iload_n hx hb dX6_execute_24 rfl (lv_at hl 1 rfl) ?_
        refine lv_aload_n hx hb dX6_execute_25 rfl (lv_at hl 0 rfl) ?_
        refine va_get (D := D) (ci := 6) (v := .ref qm_w) (C := RX6) (T := TX6) (N := 29) hx hb hu k_iX6 hown hK hP 0 rfl rfl 0 (by decide) (hu _ u_718) (fun _ h9 => h9) rfl dX6_execute_26 ?_
        refine lv_iload_n hx hb dX6_execute_29 rfl (lv_at hl 1 rfl) ?_
        obtain ⟨hin_7, h⟩ := ob_if h
        have hin_7 := inb_in hin_7
        refine va_iald (D := D) hx hb hK hP 1 0 rfl rfl hin_7 dX6_execute_30 ?_
        refine va_iast (D := D) hx hb hK hP hD hS 5 0 rfl rfl hin_7 dX6_execute_31 (fun H locs hP hD hS => ?_)
        have hP : va_P D vwCl [(qm, .inr (6, [.ref qm_w, .ref qm_past, .int m_pastMany, .ref qm_images, .int m_filled, .ref qm_text, .int m_length, .ref qm_may, .ref qm_least, .ref qm_isCarried, .ref qm_list, .ref qm_nodes, .int m_listMany, .int m_went, .int m_cost, .int m_cause, .int m_looks, .int m_isSent, .int m_isOld, .ref qm_kept, .ref qm_keptLow, .ref qm_keptHigh, .int m_keptMany, .ref qm_keptNodes, .ref qm_numbers, .ref qm_sums, .ref qm_commands, .int m_commandMany, .ref qm_held])), (qm_w, .inl (cI, 93, .inl m_w)), (qm_past, .inl (cI, 744, .inl m_past)), (qm_text, .inl (cI, 80, .inl m_text)), (qm_commands, .inl (cI, 320, .inl m_commands)), (qm_held, .inl (cI, 93, .inl (upd m_held (Int32.toNatClampNeg x1) (m_w (Int32.toNatClampNeg x1)))))] H := hP
        have hD : va_D A [(qm, .inr (6, [.ref qm_w, .ref qm_past, .int m_pastMany, .ref qm_images, .int m_filled, .ref qm_text, .int m_length, .ref qm_may, .ref qm_least, .ref qm_isCarried, .ref qm_list, .ref qm_nodes, .int m_listMany, .int m_went, .int m_cost, .int m_cause, .int m_looks, .int m_isSent, .int m_isOld, .ref qm_kept, .ref qm_keptLow, .ref qm_keptHigh, .int m_keptMany, .ref qm_keptNodes, .ref qm_numbers, .ref qm_sums, .ref qm_commands, .int m_commandMany, .ref qm_held])), (qm_w, .inl (cI, 93, .inl m_w)), (qm_past, .inl (cI, 744, .inl m_past)), (qm_text, .inl (cI, 80, .inl m_text)), (qm_commands, .inl (cI, 320, .inl m_commands)), (qm_held, .inl (cI, 93, .inl (upd m_held (Int32.toNatClampNeg x1) (m_w (Int32.toNatClampNeg x1)))))] := hD
        refine lv_iinc (v := (x1 + (1 : Int32))) (lv' := [(1, .int (x1 + (1 : Int32))), (0, .ref qm)]) hx hb dX6_execute_32 hl (k := 1) rfl rfl (by decide) rfl (fun ls hl => ?_)
        refine lv_goto (tgt := 14) hx hb dX6_execute_35 (by decide) ?_
        exact ih14 (x1 + (1 : Int32)) m_w m_past m_pastMany m_text m_length m_isOld m_commands m_commandMany (upd m_held (Int32.toNatClampNeg x1) (m_w (Int32.toNatClampNeg x1))) _ _ _ hP hD hS (lv_sub hl [1, 0] rfl) h
  refine lv_aload_n hx hb dX6_execute_0 rfl (lv_at hl 0 rfl) ?_
  obtain ⟨⟨r_1, o_2, o_3⟩, hc_4, h⟩ := ob_bind h
  dsimp only at h
  refine k_callVI (qb := 0) [0, 3, 4] [0, 2] [0, 4] [(qm, .inr (6, [.ref qm_w, .ref qm_past, .int m_pastMany, .ref qm_images, .int m_filled, .ref qm_text, .int m_length, .ref qm_may, .ref qm_least, .ref qm_isCarried, .ref qm_list, .ref qm_nodes, .int m_listMany, .int m_went, .int m_cost, .int m_cause, .int m_looks, .int m_isSent, .int m_isOld, .ref qm_kept, .ref qm_keptLow, .ref qm_keptHigh, .int m_keptMany, .ref qm_keptNodes, .ref qm_numbers, .ref qm_sums, .ref qm_commands, .int o_3, .ref qm_held])), (qm_commands, .inl (cI, 320, .inl o_2))] (As := []) (rest := []) ⟨hx, hb, hml, hown, hts⟩ hT hZ hA hP hD hS (c_X6_read l D cI cZ cN aK aV qm qm_w qm_past qm_images qm_text qm_may qm_least qm_isCarried qm_list qm_nodes qm_kept qm_keptLow qm_keptHigh qm_keptNodes qm_numbers qm_sums qm_commands qm_held m_pastMany m_filled m_text m_length m_listMany m_went m_cost m_cause m_looks m_isSent m_isOld m_keptMany m_commands m_commandMany r_1 o_2 o_3 hc_4) ⟨callB_of 0 hts (k_good u_994) rfl rfl rfl (hu _ u_51) (hu _ u_991) (by decide +kernel) ⟨Nat.le_of_ble_eq_true rfl, Nat.le_of_ble_eq_true rfl⟩, hu _ u_993, hu _ u_40⟩ rfl rfl rfl (by decide) (by decide) (by decide) rfl rfl rfl rfl hl.1 rfl (Nat.le_of_ble_eq_true rfl) dX6_execute_1 (fun H locs hP hD hS => ?_)
  have hP : va_P D vwCl [(qm, .inr (6, [.ref qm_w, .ref qm_past, .int m_pastMany, .ref qm_images, .int m_filled, .ref qm_text, .int m_length, .ref qm_may, .ref qm_least, .ref qm_isCarried, .ref qm_list, .ref qm_nodes, .int m_listMany, .int m_went, .int m_cost, .int m_cause, .int m_looks, .int m_isSent, .int m_isOld, .ref qm_kept, .ref qm_keptLow, .ref qm_keptHigh, .int m_keptMany, .ref qm_keptNodes, .ref qm_numbers, .ref qm_sums, .ref qm_commands, .int o_3, .ref qm_held])), (qm_w, .inl (cI, 93, .inl m_w)), (qm_past, .inl (cI, 744, .inl m_past)), (qm_text, .inl (cI, 80, .inl m_text)), (qm_commands, .inl (cI, 320, .inl o_2)), (qm_held, .inl (cI, 93, .inl m_held))] H := hP
  have hD : va_D A [(qm, .inr (6, [.ref qm_w, .ref qm_past, .int m_pastMany, .ref qm_images, .int m_filled, .ref qm_text, .int m_length, .ref qm_may, .ref qm_least, .ref qm_isCarried, .ref qm_list, .ref qm_nodes, .int m_listMany, .int m_went, .int m_cost, .int m_cause, .int m_looks, .int m_isSent, .int m_isOld, .ref qm_kept, .ref qm_keptLow, .ref qm_keptHigh, .int m_keptMany, .ref qm_keptNodes, .ref qm_numbers, .ref qm_sums, .ref qm_commands, .int o_3, .ref qm_held])), (qm_w, .inl (cI, 93, .inl m_w)), (qm_past, .inl (cI, 744, .inl m_past)), (qm_text, .inl (cI, 80, .inl m_text)), (qm_commands, .inl (cI, 320, .inl o_2)), (qm_held, .inl (cI, 93, .inl m_held))] := hD
  refine lv_bipush (v := (-9 : Int32)) hx hb dX6_execute_4 (by decide) ?_
  refine lv_icmp_eq (tgt := 12) hx hb dX6_execute_6 (by decide) (fun cc_5 => ?_) (fun cc_5 => ?_)
  · have h := (if_pos cc_5).symm.trans h
    refine lv_iconst (v := (0 : Int32)) hx hb dX6_execute_12 (by decide) ?_
    refine lv_istore_n (lv' := [(1, .int (0 : Int32)), (0, .ref qm)]) hx hb dX6_execute_13 rfl hl (by decide) rfl (fun ls hl => ?_)
    exact w14 1000 (0 : Int32) m_w m_past m_pastMany m_text m_length m_isOld o_2 o_3 m_held _ _ _ hP hD hS (lv_sub hl [1, 0] rfl) h
  · have h := (if_neg cc_5).symm.trans h
    refine lv_bipush (v := (-2 : Int32)) hx hb dX6_execute_9 (by decide) ?_
    have hq := Option.some.inj h
    clear h
    obtain ⟨e0, hq0⟩ := Prod.mk.inj hq
    clear hq
    obtain ⟨e1, hq1⟩ := Prod.mk.inj hq0
    clear hq0
    obtain ⟨e2, hq2⟩ := Prod.mk.inj hq1
    clear hq1
    obtain ⟨e3, hq3⟩ := Prod.mk.inj hq2
    clear hq2
    obtain ⟨e4, hq4⟩ := Prod.mk.inj hq3
    clear hq3
    obtain ⟨e5, hq5⟩ := Prod.mk.inj hq4
    clear hq4
    obtain ⟨e6, hq6⟩ := Prod.mk.inj hq5
    clear hq5
    subst e0
    subst e1
    subst e2
    subst e3
    subst e4
    subst e5
    subst e6
    subst hq6
    exact k_retI hx hb hr hlocks hP hD hS dX6_execute_11
def f_X6_keep_b11  : Nat → Int32 → Int32 → (Nat → Int32) → (Nat → Int32) → Int32 → Option (Int32 × (Nat → Int32) × Int32)
  | 0, _, _, _, _, _ => none
  | n + 1, x1, x2, m_w, m_images, m_filled =>
    if (93 : Int32) ≤ x2 then
      some ((m_w (Int32.toNatClampNeg (1 : Int32))), m_images, (m_filled ||| ((1 : Int32) <<< (x1 &&& (31 : Int32)))))
    else
      if inb x2 93 = true then
      if inb (((93 : Int32) * x1) + x2) 186 = true then
      (f_X6_keep_b11 n) x1 (x2 + (1 : Int32)) m_w (upd m_images (Int32.toNatClampNeg (((93 : Int32) * x1) + x2)) (m_w (Int32.toNatClampNeg x2))) m_filled
      else none
      else none
def f_X6_keep (p1 : Int32) (m_w : (Nat → Int32)) (m_images : (Nat → Int32)) (m_filled : Int32) : Option (Int32 × (Nat → Int32) × Int32) :=
  (f_X6_isImage p1).bind fun r_1 =>
  if r_1 = (0 : Int32) then
    some ((-1 : Int32), m_images, m_filled)
  else
    f_X6_keep_b11 1000 p1 (0 : Int32) m_w m_images m_filled
set_option maxHeartbeats 4000000 in
set_option maxRecDepth 100000 in
theorem c_X6_keep (l : Launch) (D : va_G) (cI cZ cN : ClassId) (aK aV : Nat → Nat)  (qm : Nat) (qm_w : Nat) (qm_past : Nat) (qm_images : Nat) (qm_text : Nat) (qm_may : Nat) (qm_least : Nat) (qm_isCarried : Nat) (qm_list : Nat) (qm_nodes : Nat) (qm_kept : Nat) (qm_keptLow : Nat) (qm_keptHigh : Nat) (qm_keptNodes : Nat) (qm_numbers : Nat) (qm_sums : Nat) (qm_commands : Nat) (qm_held : Nat) (m_w : (Nat → Int32)) (m_pastMany : Int32) (m_images : (Nat → Int32)) (m_filled : Int32) (m_length : Int32) (m_listMany : Int32) (m_went : Int32) (m_cost : Int32) (m_cause : Int32) (m_looks : Int32) (m_isSent : Int32) (m_isOld : Int32) (m_keptMany : Int32) (m_commandMany : Int32) (p1 : Int32) (r : Int32) (z_m_images : (Nat → Int32)) (z_m_filled : Int32) (h : f_X6_keep p1 m_w m_images m_filled = some (r, z_m_images, z_m_filled)) : CtI l D cI cZ cN aK aV yX6_keep (k_W yX6_keep cX6_keep 3 (some .int)) { frames := 2, cells := 0, slots := 0, locals := 42 } [.ref qm, .int p1] [(qm, .inr (6, [.ref qm_w, .ref qm_past, .int m_pastMany, .ref qm_images, .int m_filled, .ref qm_text, .int m_length, .ref qm_may, .ref qm_least, .ref qm_isCarried, .ref qm_list, .ref qm_nodes, .int m_listMany, .int m_went, .int m_cost, .int m_cause, .int m_looks, .int m_isSent, .int m_isOld, .ref qm_kept, .ref qm_keptLow, .ref qm_keptHigh, .int m_keptMany, .ref qm_keptNodes, .ref qm_numbers, .ref qm_sums, .ref qm_commands, .int m_commandMany, .ref qm_held])), (qm_w, .inl (cI, 93, .inl m_w)), (qm_images, .inl (cI, 186, .inl m_images))] r [(qm, .inr (6, [.ref qm_w, .ref qm_past, .int m_pastMany, .ref qm_images, .int z_m_filled, .ref qm_text, .int m_length, .ref qm_may, .ref qm_least, .ref qm_isCarried, .ref qm_list, .ref qm_nodes, .int m_listMany, .int m_went, .int m_cost, .int m_cause, .int m_looks, .int m_isSent, .int m_isOld, .ref qm_kept, .ref qm_keptLow, .ref qm_keptHigh, .int m_keptMany, .ref qm_keptNodes, .ref qm_numbers, .ref qm_sums, .ref qm_commands, .int m_commandMany, .ref qm_held])), (qm_w, .inl (cI, 93, .inl m_w)), (qm_images, .inl (cI, 186, .inl z_m_images))] := by
  refine k_startI (by decide) (Nat.le_of_ble_eq_true rfl) ?_
  intro p e s m below meth c A ls hx hb hr hml hown hts hlocks hT hZ hA hP hD hS hl
  have hK := hT.1
  have hu : ∀ w ∈ k_U, w.before ([.ref qm, .int p1] : List Value).toArray s = true := fun w h => hts w (List.mem_cons_of_mem _ h)
  have hown : s.vm.findClass RX6 = some m.cls := hown
  have hl : lv_has ls 3 [(0, .ref qm), (1, .int p1)] := hl
  unfold f_X6_keep at h
  have w11 : ∀ (n11 : Nat) (x1 : Int32) (x2 : Int32) (m_w : (Nat → Int32)) (m_images : (Nat → Int32)) (m_filled : Int32) (H : Heap) (locs : List Loc) (ls : Array Slot), va_P D vwCl [(qm, .inr (6, [.ref qm_w, .ref qm_past, .int m_pastMany, .ref qm_images, .int m_filled, .ref qm_text, .int m_length, .ref qm_may, .ref qm_least, .ref qm_isCarried, .ref qm_list, .ref qm_nodes, .int m_listMany, .int m_went, .int m_cost, .int m_cause, .int m_looks, .int m_isSent, .int m_isOld, .ref qm_kept, .ref qm_keptLow, .ref qm_keptHigh, .int m_keptMany, .ref qm_keptNodes, .ref qm_numbers, .ref qm_sums, .ref qm_commands, .int m_commandMany, .ref qm_held])), (qm_w, .inl (cI, 93, .inl m_w)), (qm_images, .inl (cI, 186, .inl m_images))] H → va_D A [(qm, .inr (6, [.ref qm_w, .ref qm_past, .int m_pastMany, .ref qm_images, .int m_filled, .ref qm_text, .int m_length, .ref qm_may, .ref qm_least, .ref qm_isCarried, .ref qm_list, .ref qm_nodes, .int m_listMany, .int m_went, .int m_cost, .int m_cause, .int m_looks, .int m_isSent, .int m_isOld, .ref qm_kept, .ref qm_keptLow, .ref qm_keptHigh, .int m_keptMany, .ref qm_keptNodes, .ref qm_numbers, .ref qm_sums, .ref qm_commands, .int m_commandMany, .ref qm_held])), (qm_w, .inl (cI, 93, .inl m_w)), (qm_images, .inl (cI, 186, .inl m_images))] → va_S A s.heap H locs → lv_has ls 3 [(0, .ref qm), (1, .int x1), (2, .int x2)] → f_X6_keep_b11 n11 x1 x2 m_w m_images m_filled = some (r, z_m_images, z_m_filled) → W p l e { frames := 2, cells := 0, slots := 0, locals := 42 } s m ([.ref qm, .int p1] : List Value).toArray below meth c H locs 0 0 (MQ below (k_QI D r [(qm, .inr (6, [.ref qm_w, .ref qm_past, .int m_pastMany, .ref qm_images, .int z_m_filled, .ref qm_text, .int m_length, .ref qm_may, .ref qm_least, .ref qm_isCarried, .ref qm_list, .ref qm_nodes, .int m_listMany, .int m_went, .int m_cost, .int m_cause, .int m_looks, .int m_isSent, .int m_isOld, .ref qm_kept, .ref qm_keptLow, .ref qm_keptHigh, .int m_keptMany, .ref qm_keptNodes, .ref qm_numbers, .ref qm_sums, .ref qm_commands, .int m_commandMany, .ref qm_held])), (qm_w, .inl (cI, 93, .inl m_w)), (qm_images, .inl (cI, 186, .inl z_m_images))] A) ([.ref qm, .int p1] : List Value).toArray s 0 0 A) (F0 m 11 ls []) := by
    intro n11
    induction n11 with
    | zero =>
      intro x1 x2 m_w m_images m_filled H locs ls hP hD hS hl h
      rw [f_X6_keep_b11] at h
      cases h
    | succ n11 ih11 =>
      intro x1 x2 m_w m_images m_filled H locs ls hP hD hS hl h
      rw [f_X6_keep_b11] at h
      refine lv_iload_n hx hb dX6_keep_11 rfl (lv_at hl 2 rfl) ?_
      refine lv_bipush (v := (93 : Int32)) hx hb dX6_keep_12 (by decide) ?_
      refine lv_icmp_ge (tgt := 40) hx hb dX6_keep_14 (by decide) (fun cc_4 => ?_) (fun cc_4 => ?_)
      · have h := (if_pos cc_4).symm.trans h
        refine lv_aload_n hx hb dX6_keep_40 rfl (lv_at hl 0 rfl) ?_
        refine lv_dup hx hb dX6_keep_41 rfl ?_
        refine va_get (D := D) (ci := 6) (v := .int m_filled) (C := RX6) (T := TX6) (N := 29) hx hb hu k_iX6 hown hK hP 0 rfl rfl 4 (by decide) (hu _ u_722) (fun _ h9 => h9) rfl dX6_keep_42 ?_
        refine lv_iconst (v := (1 : Int32)) hx hb dX6_keep_45 (by decide) ?_
        refine lv_iload_n hx hb dX6_keep_46 rfl (lv_at hl 1 rfl) ?_
        refine lv_ishl hx hb dX6_keep_47 ?_
        refine lv_ior hx hb dX6_keep_48 ?_
        refine va_put (D := D) (ci := 6) (v := .int (m_filled ||| ((1 : Int32) <<< (x1 &&& (31 : Int32))))) (ty := .int) (C := RX6) (T := TX6) (N := 29) hx hb hu k_iX6 tyX6 tyX6_ok nmX6 hown hK hP hD hS 0 rfl rfl 4 (by decide) (hu _ u_722) (fun _ h9 => h9) rfl (by decide +kernel) rfl rfl (Nat.le_of_ble_eq_true rfl) dX6_keep_49 (fun H locs hP hD hS => ?_)
        have hP : va_P D vwCl [(qm, .inr (6, [.ref qm_w, .ref qm_past, .int m_pastMany, .ref qm_images, .int (m_filled ||| ((1 : Int32) <<< (x1 &&& (31 : Int32)))), .ref qm_text, .int m_length, .ref qm_may, .ref qm_least, .ref qm_isCarried, .ref qm_list, .ref qm_nodes, .int m_listMany, .int m_went, .int m_cost, .int m_cause, .int m_looks, .int m_isSent, .int m_isOld, .ref qm_kept, .ref qm_keptLow, .ref qm_keptHigh, .int m_keptMany, .ref qm_keptNodes, .ref qm_numbers, .ref qm_sums, .ref qm_commands, .int m_commandMany, .ref qm_held])), (qm_w, .inl (cI, 93, .inl m_w)), (qm_images, .inl (cI, 186, .inl m_images))] H := hP
        have hD : va_D A [(qm, .inr (6, [.ref qm_w, .ref qm_past, .int m_pastMany, .ref qm_images, .int (m_filled ||| ((1 : Int32) <<< (x1 &&& (31 : Int32)))), .ref qm_text, .int m_length, .ref qm_may, .ref qm_least, .ref qm_isCarried, .ref qm_list, .ref qm_nodes, .int m_listMany, .int m_went, .int m_cost, .int m_cause, .int m_looks, .int m_isSent, .int m_isOld, .ref qm_kept, .ref qm_keptLow, .ref qm_keptHigh, .int m_keptMany, .ref qm_keptNodes, .ref qm_numbers, .ref qm_sums, .ref qm_commands, .int m_commandMany, .ref qm_held])), (qm_w, .inl (cI, 93, .inl m_w)), (qm_images, .inl (cI, 186, .inl m_images))] := hD
        refine lv_aload_n hx hb dX6_keep_52 rfl (lv_at hl 0 rfl) ?_
        refine va_get (D := D) (ci := 6) (v := .ref qm_w) (C := RX6) (T := TX6) (N := 29) hx hb hu k_iX6 hown hK hP 0 rfl rfl 0 (by decide) (hu _ u_718) (fun _ h9 => h9) rfl dX6_keep_53 ?_
        refine lv_iconst (v := (1 : Int32)) hx hb dX6_keep_56 (by decide) ?_
        refine va_iald (D := D) hx hb hK hP 1 0 rfl rfl (inb_in (by decide)) dX6_keep_57 ?_
        have hq := Option.some.inj h
        clear h
        obtain ⟨e0, hq0⟩ := Prod.mk.inj hq
        clear hq
        obtain ⟨e1, hq1⟩ := Prod.mk.inj hq0
        clear hq0
        subst e0
        subst e1
        subst hq1
        exact k_retI hx hb hr hlocks hP hD hS dX6_keep_58
      · have h := (if_neg cc_4).symm.trans h
        refine lv_aload_n hx hb dX6_keep_17 rfl (lv_at hl 0 rfl) ?_
        refine va_get (D := D) (ci := 6) (v := .ref qm_images) (C := RX6) (T := TX6) (N := 29) hx hb hu k_iX6 hown hK hP 0 rfl rfl 3 (by decide) (hu _ u_721) (fun _ h9 => h9) rfl dX6_keep_18 ?_
        refine lv_bipush (v := (93 : Int32)) hx hb dX6_keep_21 (by decide) ?_
        refine lv_iload_n hx hb dX6_keep_23 rfl (lv_at hl 1 rfl) ?_
        refine lv_imul hx hb dX6_keep_24 ?_
        refine lv_iload_n hx hb dX6_keep_25 rfl (lv_at hl 2 rfl) ?_
        refine lv_iadd hx hb dX6_keep_26 ?_
        refine lv_aload_n hx hb dX6_keep_27 rfl (lv_at hl 0 rfl) ?_
        refine va_get (D := D) (ci := 6) (v := .ref qm_w) (C := RX6) (T := TX6) (N := 29) hx hb hu k_iX6 hown hK hP 0 rfl rfl 0 (by decide) (hu _ u_718) (fun _ h9 => h9) rfl dX6_keep_28 ?_
        refine lv_iload_n hx hb dX6_keep_31 rfl (lv_at hl 2 rfl) ?_
        obtain ⟨hin_5, h⟩ := ob_if h
        have hin_5 := inb_in hin_5
        refine va_iald (D := D) hx hb hK hP 1 0 rfl rfl hin_5 dX6_keep_32 ?_
        obtain ⟨hin_6, h⟩ := ob_if h
        have hin_6 := inb_in hin_6
        refine va_iast (D := D) hx hb hK hP hD hS 2 0 rfl rfl hin_6 dX6_keep_33 (fun H locs hP hD hS => ?_)
        have hP : va_P D vwCl [(qm, .inr (6, [.ref qm_w, .ref qm_past, .int m_pastMany, .ref qm_images, .int m_filled, .ref qm_text, .int m_length, .ref qm_may, .ref qm_least, .ref qm_isCarried, .ref qm_list, .ref qm_nodes, .int m_listMany, .int m_went, .int m_cost, .int m_cause, .int m_looks, .int m_isSent, .int m_isOld, .ref qm_kept, .ref qm_keptLow, .ref qm_keptHigh, .int m_keptMany, .ref qm_keptNodes, .ref qm_numbers, .ref qm_sums, .ref qm_commands, .int m_commandMany, .ref qm_held])), (qm_w, .inl (cI, 93, .inl m_w)), (qm_images, .inl (cI, 186, .inl (upd m_images (Int32.toNatClampNeg (((93 : Int32) * x1) + x2)) (m_w (Int32.toNatClampNeg x2)))))] H := hP
        have hD : va_D A [(qm, .inr (6, [.ref qm_w, .ref qm_past, .int m_pastMany, .ref qm_images, .int m_filled, .ref qm_text, .int m_length, .ref qm_may, .ref qm_least, .ref qm_isCarried, .ref qm_list, .ref qm_nodes, .int m_listMany, .int m_went, .int m_cost, .int m_cause, .int m_looks, .int m_isSent, .int m_isOld, .ref qm_kept, .ref qm_keptLow, .ref qm_keptHigh, .int m_keptMany, .ref qm_keptNodes, .ref qm_numbers, .ref qm_sums, .ref qm_commands, .int m_commandMany, .ref qm_held])), (qm_w, .inl (cI, 93, .inl m_w)), (qm_images, .inl (cI, 186, .inl (upd m_images (Int32.toNatClampNeg (((93 : Int32) * x1) + x2)) (m_w (Int32.toNatClampNeg x2)))))] := hD
        refine lv_iinc (v := (x2 + (1 : Int32))) (lv' := [(2, .int (x2 + (1 : Int32))), (0, .ref qm), (1, .int x1)]) hx hb dX6_keep_34 hl (k := 2) rfl rfl (by decide) rfl (fun ls hl => ?_)
        refine lv_goto (tgt := 11) hx hb dX6_keep_37 (by decide) ?_
        exact ih11 x1 (x2 + (1 : Int32)) m_w (upd m_images (Int32.toNatClampNeg (((93 : Int32) * x1) + x2)) (m_w (Int32.toNatClampNeg x2))) m_filled _ _ _ hP hD hS (lv_sub hl [1, 2, 0] rfl) h
  refine lv_iload_n hx hb dX6_keep_0 rfl (lv_at hl 1 rfl) ?_
  obtain ⟨r_1, hc_2, h⟩ := ob_bind h
  refine k_call0 (As := [.int p1]) (rest := []) ⟨hx, hb, hml, hown, hts⟩ hT hZ hA hP hD hS (c_X6_isImage l D cI cZ cN aK aV p1 r_1 hc_2) ⟨callB_of 1 hts (k_good u_1023) rfl rfl rfl (hu _ u_51) (hu _ u_1021) (by decide +kernel) ⟨Nat.le_of_ble_eq_true rfl, Nat.le_of_ble_eq_true rfl⟩, hu _ u_1022⟩ rfl hl.1 rfl (Nat.le_of_ble_eq_true rfl) dX6_keep_1 (fun H locs hP hD hS => ?_)
  refine lv_if_ne (tgt := 9) hx hb dX6_keep_4 (by decide) (fun cc_3 => ?_) (fun cc_3 => ?_)
  · have h := (if_neg cc_3).symm.trans h
    refine lv_iconst (v := (0 : Int32)) hx hb dX6_keep_9 (by decide) ?_
    refine lv_istore_n (lv' := [(2, .int (0 : Int32)), (0, .ref qm), (1, .int p1)]) hx hb dX6_keep_10 rfl hl (by decide) rfl (fun ls hl => ?_)
    exact w11 1000 p1 (0 : Int32) m_w m_images m_filled _ _ _ hP hD hS (lv_sub hl [1, 2, 0] rfl) h
  · have h := (if_pos cc_3).symm.trans h
    refine lv_iconst (v := (-1 : Int32)) hx hb dX6_keep_7 (by decide) ?_
    have hq := Option.some.inj h
    clear h
    obtain ⟨e0, hq0⟩ := Prod.mk.inj hq
    clear hq
    obtain ⟨e1, hq1⟩ := Prod.mk.inj hq0
    clear hq0
    subst e0
    subst e1
    subst hq1
    exact k_retI hx hb hr hlocks hP hD hS dX6_keep_8
def f_X6_back_b29  : Nat → Int32 → Int32 → (Nat → Int32) → (Nat → Int32) → Int32 → (Nat → Int32) → Int32 → Int32 → Option (Int32 × (Nat → Int32) × (Nat → Int32) × Int32 × Int32)
  | 0, _, _, _, _, _, _, _, _ => none
  | n + 1, x1, x2, m_w, m_past, m_pastMany, m_images, m_filled, m_isOld =>
    if (93 : Int32) ≤ x2 then
      some ((m_w (Int32.toNatClampNeg (1 : Int32))), m_w, m_past, m_pastMany, (1 : Int32))
    else
      if inb (((93 : Int32) * x1) + x2) 186 = true then
      if inb x2 93 = true then
      (f_X6_back_b29 n) x1 (x2 + (1 : Int32)) (upd m_w (Int32.toNatClampNeg x2) (m_images (Int32.toNatClampNeg (((93 : Int32) * x1) + x2)))) m_past m_pastMany m_images m_filled m_isOld
      else none
      else none
def f_X6_back (p1 : Int32) (m_w : (Nat → Int32)) (m_past : (Nat → Int32)) (m_pastMany : Int32) (m_images : (Nat → Int32)) (m_filled : Int32) (m_isOld : Int32) : Option (Int32 × (Nat → Int32) × (Nat → Int32) × Int32 × Int32) :=
  (f_X6_isImage p1).bind fun r_1 =>
  if r_1 = (0 : Int32) then
    some ((-1 : Int32), m_w, m_past, m_pastMany, m_isOld)
  else
    if ((m_filled >>> (p1 &&& (31 : Int32))) &&& (1 : Int32)) = (0 : Int32) then
      some ((-2 : Int32), m_w, m_past, m_pastMany, m_isOld)
    else
      (f_X6_remember m_w m_past m_pastMany).bind fun ⟨o_5, o_6⟩ =>
      f_X6_back_b29 1000 p1 (0 : Int32) m_w o_5 o_6 m_images m_filled m_isOld
set_option maxHeartbeats 4000000 in
set_option maxRecDepth 100000 in
theorem c_X6_back (l : Launch) (D : va_G) (cI cZ cN : ClassId) (aK aV : Nat → Nat)  (qm : Nat) (qm_w : Nat) (qm_past : Nat) (qm_images : Nat) (qm_text : Nat) (qm_may : Nat) (qm_least : Nat) (qm_isCarried : Nat) (qm_list : Nat) (qm_nodes : Nat) (qm_kept : Nat) (qm_keptLow : Nat) (qm_keptHigh : Nat) (qm_keptNodes : Nat) (qm_numbers : Nat) (qm_sums : Nat) (qm_commands : Nat) (qm_held : Nat) (m_w : (Nat → Int32)) (m_past : (Nat → Int32)) (m_pastMany : Int32) (m_images : (Nat → Int32)) (m_filled : Int32) (m_length : Int32) (m_listMany : Int32) (m_went : Int32) (m_cost : Int32) (m_cause : Int32) (m_looks : Int32) (m_isSent : Int32) (m_isOld : Int32) (m_keptMany : Int32) (m_commandMany : Int32) (p1 : Int32) (r : Int32) (z_m_w : (Nat → Int32)) (z_m_past : (Nat → Int32)) (z_m_pastMany : Int32) (z_m_isOld : Int32) (h : f_X6_back p1 m_w m_past m_pastMany m_images m_filled m_isOld = some (r, z_m_w, z_m_past, z_m_pastMany, z_m_isOld)) : CtI l D cI cZ cN aK aV yX6_back (k_W yX6_back cX6_back 3 (some .int)) { frames := 2, cells := 0, slots := 0, locals := 42 } [.ref qm, .int p1] [(qm, .inr (6, [.ref qm_w, .ref qm_past, .int m_pastMany, .ref qm_images, .int m_filled, .ref qm_text, .int m_length, .ref qm_may, .ref qm_least, .ref qm_isCarried, .ref qm_list, .ref qm_nodes, .int m_listMany, .int m_went, .int m_cost, .int m_cause, .int m_looks, .int m_isSent, .int m_isOld, .ref qm_kept, .ref qm_keptLow, .ref qm_keptHigh, .int m_keptMany, .ref qm_keptNodes, .ref qm_numbers, .ref qm_sums, .ref qm_commands, .int m_commandMany, .ref qm_held])), (qm_w, .inl (cI, 93, .inl m_w)), (qm_past, .inl (cI, 744, .inl m_past)), (qm_images, .inl (cI, 186, .inl m_images))] r [(qm, .inr (6, [.ref qm_w, .ref qm_past, .int z_m_pastMany, .ref qm_images, .int m_filled, .ref qm_text, .int m_length, .ref qm_may, .ref qm_least, .ref qm_isCarried, .ref qm_list, .ref qm_nodes, .int m_listMany, .int m_went, .int m_cost, .int m_cause, .int m_looks, .int m_isSent, .int z_m_isOld, .ref qm_kept, .ref qm_keptLow, .ref qm_keptHigh, .int m_keptMany, .ref qm_keptNodes, .ref qm_numbers, .ref qm_sums, .ref qm_commands, .int m_commandMany, .ref qm_held])), (qm_w, .inl (cI, 93, .inl z_m_w)), (qm_past, .inl (cI, 744, .inl z_m_past)), (qm_images, .inl (cI, 186, .inl m_images))] := by
  refine k_startI (by decide) (Nat.le_of_ble_eq_true rfl) ?_
  intro p e s m below meth c A ls hx hb hr hml hown hts hlocks hT hZ hA hP hD hS hl
  have hK := hT.1
  have hu : ∀ w ∈ k_U, w.before ([.ref qm, .int p1] : List Value).toArray s = true := fun w h => hts w (List.mem_cons_of_mem _ h)
  have hown : s.vm.findClass RX6 = some m.cls := hown
  have hl : lv_has ls 3 [(0, .ref qm), (1, .int p1)] := hl
  unfold f_X6_back at h
  have w29 : ∀ (n29 : Nat) (x1 : Int32) (x2 : Int32) (m_w : (Nat → Int32)) (m_past : (Nat → Int32)) (m_pastMany : Int32) (m_images : (Nat → Int32)) (m_filled : Int32) (m_isOld : Int32) (H : Heap) (locs : List Loc) (ls : Array Slot), va_P D vwCl [(qm, .inr (6, [.ref qm_w, .ref qm_past, .int m_pastMany, .ref qm_images, .int m_filled, .ref qm_text, .int m_length, .ref qm_may, .ref qm_least, .ref qm_isCarried, .ref qm_list, .ref qm_nodes, .int m_listMany, .int m_went, .int m_cost, .int m_cause, .int m_looks, .int m_isSent, .int m_isOld, .ref qm_kept, .ref qm_keptLow, .ref qm_keptHigh, .int m_keptMany, .ref qm_keptNodes, .ref qm_numbers, .ref qm_sums, .ref qm_commands, .int m_commandMany, .ref qm_held])), (qm_w, .inl (cI, 93, .inl m_w)), (qm_past, .inl (cI, 744, .inl m_past)), (qm_images, .inl (cI, 186, .inl m_images))] H → va_D A [(qm, .inr (6, [.ref qm_w, .ref qm_past, .int m_pastMany, .ref qm_images, .int m_filled, .ref qm_text, .int m_length, .ref qm_may, .ref qm_least, .ref qm_isCarried, .ref qm_list, .ref qm_nodes, .int m_listMany, .int m_went, .int m_cost, .int m_cause, .int m_looks, .int m_isSent, .int m_isOld, .ref qm_kept, .ref qm_keptLow, .ref qm_keptHigh, .int m_keptMany, .ref qm_keptNodes, .ref qm_numbers, .ref qm_sums, .ref qm_commands, .int m_commandMany, .ref qm_held])), (qm_w, .inl (cI, 93, .inl m_w)), (qm_past, .inl (cI, 744, .inl m_past)), (qm_images, .inl (cI, 186, .inl m_images))] → va_S A s.heap H locs → lv_has ls 3 [(0, .ref qm), (1, .int x1), (2, .int x2)] → f_X6_back_b29 n29 x1 x2 m_w m_past m_pastMany m_images m_filled m_isOld = some (r, z_m_w, z_m_past, z_m_pastMany, z_m_isOld) → W p l e { frames := 2, cells := 0, slots := 0, locals := 42 } s m ([.ref qm, .int p1] : List Value).toArray below meth c H locs 0 0 (MQ below (k_QI D r [(qm, .inr (6, [.ref qm_w, .ref qm_past, .int z_m_pastMany, .ref qm_images, .int m_filled, .ref qm_text, .int m_length, .ref qm_may, .ref qm_least, .ref qm_isCarried, .ref qm_list, .ref qm_nodes, .int m_listMany, .int m_went, .int m_cost, .int m_cause, .int m_looks, .int m_isSent, .int z_m_isOld, .ref qm_kept, .ref qm_keptLow, .ref qm_keptHigh, .int m_keptMany, .ref qm_keptNodes, .ref qm_numbers, .ref qm_sums, .ref qm_commands, .int m_commandMany, .ref qm_held])), (qm_w, .inl (cI, 93, .inl z_m_w)), (qm_past, .inl (cI, 744, .inl z_m_past)), (qm_images, .inl (cI, 186, .inl m_images))] A) ([.ref qm, .int p1] : List Value).toArray s 0 0 A) (F0 m 29 ls []) := by
    intro n29
    induction n29 with
    | zero =>
      intro x1 x2 m_w m_past m_pastMany m_images m_filled m_isOld H locs ls hP hD hS hl h
      rw [f_X6_back_b29] at h
      cases h
    | succ n29 ih29 =>
      intro x1 x2 m_w m_past m_pastMany m_images m_filled m_isOld H locs ls hP hD hS hl h
      rw [f_X6_back_b29] at h
      refine lv_iload_n hx hb dX6_back_29 rfl (lv_at hl 2 rfl) ?_
      refine lv_bipush (v := (93 : Int32)) hx hb dX6_back_30 (by decide) ?_
      refine lv_icmp_ge (tgt := 58) hx hb dX6_back_32 (by decide) (fun cc_8 => ?_) (fun cc_8 => ?_)
      · have h := (if_pos cc_8).symm.trans h
        refine lv_aload_n hx hb dX6_back_58 rfl (lv_at hl 0 rfl) ?_
        refine lv_iconst (v := (1 : Int32)) hx hb dX6_back_59 (by decide) ?_
        refine va_put (D := D) (ci := 6) (v := .int (1 : Int32)) (ty := .boolean) (C := RX6) (T := TX6) (N := 29) hx hb hu k_iX6 tyX6 tyX6_ok nmX6 hown hK hP hD hS 0 rfl rfl 18 (by decide) (hu _ u_736) (fun _ h9 => h9) rfl (by decide +kernel) rfl rfl (Nat.le_of_ble_eq_true rfl) dX6_back_60 (fun H locs hP hD hS => ?_)
        have hP : va_P D vwCl [(qm, .inr (6, [.ref qm_w, .ref qm_past, .int m_pastMany, .ref qm_images, .int m_filled, .ref qm_text, .int m_length, .ref qm_may, .ref qm_least, .ref qm_isCarried, .ref qm_list, .ref qm_nodes, .int m_listMany, .int m_went, .int m_cost, .int m_cause, .int m_looks, .int m_isSent, .int (1 : Int32), .ref qm_kept, .ref qm_keptLow, .ref qm_keptHigh, .int m_keptMany, .ref qm_keptNodes, .ref qm_numbers, .ref qm_sums, .ref qm_commands, .int m_commandMany, .ref qm_held])), (qm_w, .inl (cI, 93, .inl m_w)), (qm_past, .inl (cI, 744, .inl m_past)), (qm_images, .inl (cI, 186, .inl m_images))] H := hP
        have hD : va_D A [(qm, .inr (6, [.ref qm_w, .ref qm_past, .int m_pastMany, .ref qm_images, .int m_filled, .ref qm_text, .int m_length, .ref qm_may, .ref qm_least, .ref qm_isCarried, .ref qm_list, .ref qm_nodes, .int m_listMany, .int m_went, .int m_cost, .int m_cause, .int m_looks, .int m_isSent, .int (1 : Int32), .ref qm_kept, .ref qm_keptLow, .ref qm_keptHigh, .int m_keptMany, .ref qm_keptNodes, .ref qm_numbers, .ref qm_sums, .ref qm_commands, .int m_commandMany, .ref qm_held])), (qm_w, .inl (cI, 93, .inl m_w)), (qm_past, .inl (cI, 744, .inl m_past)), (qm_images, .inl (cI, 186, .inl m_images))] := hD
        refine lv_aload_n hx hb dX6_back_63 rfl (lv_at hl 0 rfl) ?_
        refine va_get (D := D) (ci := 6) (v := .ref qm_w) (C := RX6) (T := TX6) (N := 29) hx hb hu k_iX6 hown hK hP 0 rfl rfl 0 (by decide) (hu _ u_718) (fun _ h9 => h9) rfl dX6_back_64 ?_
        refine lv_iconst (v := (1 : Int32)) hx hb dX6_back_67 (by decide) ?_
        refine va_iald (D := D) hx hb hK hP 1 0 rfl rfl (inb_in (by decide)) dX6_back_68 ?_
        have hq := Option.some.inj h
        clear h
        obtain ⟨e0, hq0⟩ := Prod.mk.inj hq
        clear hq
        obtain ⟨e1, hq1⟩ := Prod.mk.inj hq0
        clear hq0
        obtain ⟨e2, hq2⟩ := Prod.mk.inj hq1
        clear hq1
        obtain ⟨e3, hq3⟩ := Prod.mk.inj hq2
        clear hq2
        subst e0
        subst e1
        subst e2
        subst e3
        subst hq3
        exact k_retI hx hb hr hlocks hP hD hS dX6_back_69
      · have h := (if_neg cc_8).symm.trans h
        refine lv_aload_n hx hb dX6_back_35 rfl (lv_at hl 0 rfl) ?_
        refine va_get (D := D) (ci := 6) (v := .ref qm_w) (C := RX6) (T := TX6) (N := 29) hx hb hu k_iX6 hown hK hP 0 rfl rfl 0 (by decide) (hu _ u_718) (fun _ h9 => h9) rfl dX6_back_36 ?_
        refine lv_iload_n hx hb dX6_back_39 rfl (lv_at hl 2 rfl) ?_
        refine lv_aload_n hx hb dX6_back_40 rfl (lv_at hl 0 rfl) ?_
        refine va_get (D := D) (ci := 6) (v := .ref qm_images) (C := RX6) (T := TX6) (N := 29) hx hb hu k_iX6 hown hK hP 0 rfl rfl 3 (by decide) (hu _ u_721) (fun _ h9 => h9) rfl dX6_back_41 ?_
        refine lv_bipush (v := (93 : Int32)) hx hb dX6_back_44 (by decide) ?_
        refine lv_iload_n hx hb dX6_back_46 rfl (lv_at hl 1 rfl) ?_
        refine lv_imul hx hb dX6_back_47 ?_
        refine lv_iload_n hx hb dX6_back_48 rfl (lv_at hl 2 rfl) ?_
        refine lv_iadd hx hb dX6_back_49 ?_
        obtain ⟨hin_9, h⟩ := ob_if h
        have hin_9 := inb_in hin_9
        refine va_iald (D := D) hx hb hK hP 3 0 rfl rfl hin_9 dX6_back_50 ?_
        obtain ⟨hin_10, h⟩ := ob_if h
        have hin_10 := inb_in hin_10
        refine va_iast (D := D) hx hb hK hP hD hS 1 0 rfl rfl hin_10 dX6_back_51 (fun H locs hP hD hS => ?_)
        have hP : va_P D vwCl [(qm, .inr (6, [.ref qm_w, .ref qm_past, .int m_pastMany, .ref qm_images, .int m_filled, .ref qm_text, .int m_length, .ref qm_may, .ref qm_least, .ref qm_isCarried, .ref qm_list, .ref qm_nodes, .int m_listMany, .int m_went, .int m_cost, .int m_cause, .int m_looks, .int m_isSent, .int m_isOld, .ref qm_kept, .ref qm_keptLow, .ref qm_keptHigh, .int m_keptMany, .ref qm_keptNodes, .ref qm_numbers, .ref qm_sums, .ref qm_commands, .int m_commandMany, .ref qm_held])), (qm_w, .inl (cI, 93, .inl (upd m_w (Int32.toNatClampNeg x2) (m_images (Int32.toNatClampNeg (((93 : Int32) * x1) + x2)))))), (qm_past, .inl (cI, 744, .inl m_past)), (qm_images, .inl (cI, 186, .inl m_images))] H := hP
        have hD : va_D A [(qm, .inr (6, [.ref qm_w, .ref qm_past, .int m_pastMany, .ref qm_images, .int m_filled, .ref qm_text, .int m_length, .ref qm_may, .ref qm_least, .ref qm_isCarried, .ref qm_list, .ref qm_nodes, .int m_listMany, .int m_went, .int m_cost, .int m_cause, .int m_looks, .int m_isSent, .int m_isOld, .ref qm_kept, .ref qm_keptLow, .ref qm_keptHigh, .int m_keptMany, .ref qm_keptNodes, .ref qm_numbers, .ref qm_sums, .ref qm_commands, .int m_commandMany, .ref qm_held])), (qm_w, .inl (cI, 93, .inl (upd m_w (Int32.toNatClampNeg x2) (m_images (Int32.toNatClampNeg (((93 : Int32) * x1) + x2)))))), (qm_past, .inl (cI, 744, .inl m_past)), (qm_images, .inl (cI, 186, .inl m_images))] := hD
        refine lv_iinc (v := (x2 + (1 : Int32))) (lv' := [(2, .int (x2 + (1 : Int32))), (0, .ref qm), (1, .int x1)]) hx hb dX6_back_52 hl (k := 2) rfl rfl (by decide) rfl (fun ls hl => ?_)
        refine lv_goto (tgt := 29) hx hb dX6_back_55 (by decide) ?_
        exact ih29 x1 (x2 + (1 : Int32)) (upd m_w (Int32.toNatClampNeg x2) (m_images (Int32.toNatClampNeg (((93 : Int32) * x1) + x2)))) m_past m_pastMany m_images m_filled m_isOld _ _ _ hP hD hS (lv_sub hl [1, 2, 0] rfl) h
  refine lv_iload_n hx hb dX6_back_0 rfl (lv_at hl 1 rfl) ?_
  obtain ⟨r_1, hc_2, h⟩ := ob_bind h
  refine k_call0 (As := [.int p1]) (rest := []) ⟨hx, hb, hml, hown, hts⟩ hT hZ hA hP hD hS (c_X6_isImage l D cI cZ cN aK aV p1 r_1 hc_2) ⟨callB_of 1 hts (k_good u_1023) rfl rfl rfl (hu _ u_51) (hu _ u_1021) (by decide +kernel) ⟨Nat.le_of_ble_eq_true rfl, Nat.le_of_ble_eq_true rfl⟩, hu _ u_1022⟩ rfl hl.1 rfl (Nat.le_of_ble_eq_true rfl) dX6_back_1 (fun H locs hP hD hS => ?_)
  refine lv_if_ne (tgt := 9) hx hb dX6_back_4 (by decide) (fun cc_3 => ?_) (fun cc_3 => ?_)
  · have h := (if_neg cc_3).symm.trans h
    refine lv_aload_n hx hb dX6_back_9 rfl (lv_at hl 0 rfl) ?_
    refine va_get (D := D) (ci := 6) (v := .int m_filled) (C := RX6) (T := TX6) (N := 29) hx hb hu k_iX6 hown hK hP 0 rfl rfl 4 (by decide) (hu _ u_722) (fun _ h9 => h9) rfl dX6_back_10 ?_
    refine lv_iload_n hx hb dX6_back_13 rfl (lv_at hl 1 rfl) ?_
    refine lv_ishr hx hb dX6_back_14 ?_
    refine lv_iconst (v := (1 : Int32)) hx hb dX6_back_15 (by decide) ?_
    refine lv_iand hx hb dX6_back_16 ?_
    refine lv_if_ne (tgt := 23) hx hb dX6_back_17 (by decide) (fun cc_4 => ?_) (fun cc_4 => ?_)
    · have h := (if_neg cc_4).symm.trans h
      refine lv_aload_n hx hb dX6_back_23 rfl (lv_at hl 0 rfl) ?_
      obtain ⟨⟨o_5, o_6⟩, hc_7, h⟩ := ob_bind h
      dsimp only at h
      refine k_callVV (qb := 0) [0, 1, 2] [0, 2] [0, 2] [(qm, .inr (6, [.ref qm_w, .ref qm_past, .int o_6, .ref qm_images, .int m_filled, .ref qm_text, .int m_length, .ref qm_may, .ref qm_least, .ref qm_isCarried, .ref qm_list, .ref qm_nodes, .int m_listMany, .int m_went, .int m_cost, .int m_cause, .int m_looks, .int m_isSent, .int m_isOld, .ref qm_kept, .ref qm_keptLow, .ref qm_keptHigh, .int m_keptMany, .ref qm_keptNodes, .ref qm_numbers, .ref qm_sums, .ref qm_commands, .int m_commandMany, .ref qm_held])), (qm_past, .inl (cI, 744, .inl o_5))] (As := []) (rest := []) ⟨hx, hb, hml, hown, hts⟩ hT hZ hA hP hD hS (c_X6_remember l D cI cZ cN aK aV qm qm_w qm_past qm_images qm_text qm_may qm_least qm_isCarried qm_list qm_nodes qm_kept qm_keptLow qm_keptHigh qm_keptNodes qm_numbers qm_sums qm_commands qm_held m_w m_past m_pastMany m_filled m_length m_listMany m_went m_cost m_cause m_looks m_isSent m_isOld m_keptMany m_commandMany o_5 o_6 hc_7) ⟨callB_of 0 hts (k_good u_816) rfl rfl rfl (hu _ u_51) (hu _ u_813) (by decide +kernel) ⟨Nat.le_of_ble_eq_true rfl, Nat.le_of_ble_eq_true rfl⟩, hu _ u_815, hu _ u_18⟩ rfl rfl rfl (by decide) (by decide) (by decide) rfl rfl rfl rfl hl.1 rfl (Nat.le_of_ble_eq_true rfl) dX6_back_24 (fun H locs hP hD hS => ?_)
      have hP : va_P D vwCl [(qm, .inr (6, [.ref qm_w, .ref qm_past, .int o_6, .ref qm_images, .int m_filled, .ref qm_text, .int m_length, .ref qm_may, .ref qm_least, .ref qm_isCarried, .ref qm_list, .ref qm_nodes, .int m_listMany, .int m_went, .int m_cost, .int m_cause, .int m_looks, .int m_isSent, .int m_isOld, .ref qm_kept, .ref qm_keptLow, .ref qm_keptHigh, .int m_keptMany, .ref qm_keptNodes, .ref qm_numbers, .ref qm_sums, .ref qm_commands, .int m_commandMany, .ref qm_held])), (qm_w, .inl (cI, 93, .inl m_w)), (qm_past, .inl (cI, 744, .inl o_5)), (qm_images, .inl (cI, 186, .inl m_images))] H := hP
      have hD : va_D A [(qm, .inr (6, [.ref qm_w, .ref qm_past, .int o_6, .ref qm_images, .int m_filled, .ref qm_text, .int m_length, .ref qm_may, .ref qm_least, .ref qm_isCarried, .ref qm_list, .ref qm_nodes, .int m_listMany, .int m_went, .int m_cost, .int m_cause, .int m_looks, .int m_isSent, .int m_isOld, .ref qm_kept, .ref qm_keptLow, .ref qm_keptHigh, .int m_keptMany, .ref qm_keptNodes, .ref qm_numbers, .ref qm_sums, .ref qm_commands, .int m_commandMany, .ref qm_held])), (qm_w, .inl (cI, 93, .inl m_w)), (qm_past, .inl (cI, 744, .inl o_5)), (qm_images, .inl (cI, 186, .inl m_images))] := hD
      refine lv_iconst (v := (0 : Int32)) hx hb dX6_back_27 (by decide) ?_
      refine lv_istore_n (lv' := [(2, .int (0 : Int32)), (0, .ref qm), (1, .int p1)]) hx hb dX6_back_28 rfl hl (by decide) rfl (fun ls hl => ?_)
      exact w29 1000 p1 (0 : Int32) m_w o_5 o_6 m_images m_filled m_isOld _ _ _ hP hD hS (lv_sub hl [1, 2, 0] rfl) h
    · have h := (if_pos cc_4).symm.trans h
      refine lv_bipush (v := (-2 : Int32)) hx hb dX6_back_20 (by decide) ?_
      have hq := Option.some.inj h
      clear h
      obtain ⟨e0, hq0⟩ := Prod.mk.inj hq
      clear hq
      obtain ⟨e1, hq1⟩ := Prod.mk.inj hq0
      clear hq0
      obtain ⟨e2, hq2⟩ := Prod.mk.inj hq1
      clear hq1
      obtain ⟨e3, hq3⟩ := Prod.mk.inj hq2
      clear hq2
      subst e0
      subst e1
      subst e2
      subst e3
      subst hq3
      exact k_retI hx hb hr hlocks hP hD hS dX6_back_22
  · have h := (if_pos cc_3).symm.trans h
    refine lv_iconst (v := (-1 : Int32)) hx hb dX6_back_7 (by decide) ?_
    have hq := Option.some.inj h
    clear h
    obtain ⟨e0, hq0⟩ := Prod.mk.inj hq
    clear hq
    obtain ⟨e1, hq1⟩ := Prod.mk.inj hq0
    clear hq0
    obtain ⟨e2, hq2⟩ := Prod.mk.inj hq1
    clear hq1
    obtain ⟨e3, hq3⟩ := Prod.mk.inj hq2
    clear hq2
    subst e0
    subst e1
    subst e2
    subst e3
    subst hq3
    exact k_retI hx hb hr hlocks hP hD hS dX6_back_8
