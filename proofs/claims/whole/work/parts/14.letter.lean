def f_X0_hasArrived (t_cause : Int32) : Int32 :=
  if t_cause = (0 : Int32) then
    (1 : Int32)
  else
    (0 : Int32)
set_option maxHeartbeats 4000000 in
set_option maxRecDepth 100000 in
theorem c_X0_hasArrived (l : Launch) (D : va_G) (cI cZ cN : ClassId) (aK aV : Nat → Nat)  (qt : Nat) (qt_visited : Nat) (qt_metLow : Nat) (qt_metHigh : Nat) (qy : Nat) (qn : Nat) (t_steps : Int32) (t_cost : Int32) (t_cause : Int32) (t_place : Int32) (t_computed : Int32) (t_list : Int32) (t_listed : Int32) (r : Int32) (h : f_X0_hasArrived t_cause = r) : CtI l D cI cZ cN aK aV yX0_hasArrived (k_W yX0_hasArrived cX0_hasArrived 1 (some .boolean)) { frames := 0, cells := 0, slots := 0, locals := 0 } [.ref qt] [(qt, .inr (0, [.ref qn, .ref qy, .int t_steps, .int t_cost, .int t_cause, .int t_place, .int t_computed, .int t_list, .int t_listed, .ref qt_visited, .ref qt_metLow, .ref qt_metHigh]))] r [(qt, .inr (0, [.ref qn, .ref qy, .int t_steps, .int t_cost, .int t_cause, .int t_place, .int t_computed, .int t_list, .int t_listed, .ref qt_visited, .ref qt_metLow, .ref qt_metHigh]))] := by
  refine k_startI (by decide) (Nat.le_of_ble_eq_true rfl) ?_
  intro p e s m below meth c A ls hx hb hr hml hown hts hlocks hT hZ hA hP hD hS hl
  have hK := hT.1
  have hu : ∀ w ∈ k_U, w.before ([.ref qt] : List Value).toArray s = true := fun w h => hts w (List.mem_cons_of_mem _ h)
  have hown : s.vm.findClass RX0 = some m.cls := hown
  have hl : lv_has ls 1 [(0, .ref qt)] := hl
  unfold f_X0_hasArrived at h
  refine lv_aload_n hx hb dX0_hasArrived_0 rfl (lv_at hl 0 rfl) ?_
  refine va_get (D := D) (ci := 0) (v := .int t_cause) (C := RX0) (T := TX0) (N := 12) hx hb hu k_iX0 hown hK hP 0 rfl rfl 4 (by decide) (hu _ u_152) (fun _ h9 => h9) rfl dX0_hasArrived_1 ?_
  refine lv_if_ne (tgt := 11) hx hb dX0_hasArrived_4 (by decide) (fun cc_1 => ?_) (fun cc_1 => ?_)
  · have h := (if_neg cc_1).symm.trans h
    refine lv_iconst (v := (0 : Int32)) hx hb dX0_hasArrived_11 (by decide) ?_
    have hq := h
    clear h
    subst hq
    exact k_retZ hx hb hr hlocks (Or.inl rfl) hP hD hS dX0_hasArrived_12
  · have h := (if_pos cc_1).symm.trans h
    refine lv_iconst (v := (1 : Int32)) hx hb dX0_hasArrived_7 (by decide) ?_
    refine lv_goto (tgt := 12) hx hb dX0_hasArrived_8 (by decide) ?_
    have hq := h
    clear h
    subst hq
    exact k_retZ hx hb hr hlocks (Or.inr rfl) hP hD hS dX0_hasArrived_12
def f_X0_startAt (p1 : Int32) (t_steps : Int32) (t_cost : Int32) (t_cause : Int32) (t_place : Int32) (t_computed : Int32) (t_list : Int32) (t_listed : Int32) (t_visited : (Nat → Int32)) : Int32 × Int32 × Int32 × Int32 × Int32 × Int32 × Int32 × (Nat → Int32) :=
  ((0 : Int32), (0 : Int32), (0 : Int32), p1, (0 : Int32), (0 : Int32), (0 : Int32), (upd t_visited (Int32.toNatClampNeg (0 : Int32)) p1))
set_option maxHeartbeats 4000000 in
set_option maxRecDepth 100000 in
theorem c_X0_startAt (l : Launch) (D : va_G) (cI cZ cN : ClassId) (aK aV : Nat → Nat)  (qt : Nat) (qt_visited : Nat) (qt_metLow : Nat) (qt_metHigh : Nat) (qy : Nat) (qn : Nat) (t_steps : Int32) (t_cost : Int32) (t_cause : Int32) (t_place : Int32) (t_computed : Int32) (t_list : Int32) (t_listed : Int32) (t_visited : (Nat → Int32)) (p1 : Int32) (z_t_steps : Int32) (z_t_cost : Int32) (z_t_cause : Int32) (z_t_place : Int32) (z_t_computed : Int32) (z_t_list : Int32) (z_t_listed : Int32) (z_t_visited : (Nat → Int32)) (h : f_X0_startAt p1 t_steps t_cost t_cause t_place t_computed t_list t_listed t_visited = (z_t_steps, z_t_cost, z_t_cause, z_t_place, z_t_computed, z_t_list, z_t_listed, z_t_visited)) : CtV l D cI cZ cN aK aV yX0_startAt (k_W yX0_startAt cX0_startAt 2 none) { frames := 0, cells := 0, slots := 0, locals := 0 } [.ref qt, .int p1] [(qt, .inr (0, [.ref qn, .ref qy, .int t_steps, .int t_cost, .int t_cause, .int t_place, .int t_computed, .int t_list, .int t_listed, .ref qt_visited, .ref qt_metLow, .ref qt_metHigh])), (qt_visited, .inl (cI, 41, .inl t_visited))] [(qt, .inr (0, [.ref qn, .ref qy, .int z_t_steps, .int z_t_cost, .int z_t_cause, .int z_t_place, .int z_t_computed, .int z_t_list, .int z_t_listed, .ref qt_visited, .ref qt_metLow, .ref qt_metHigh])), (qt_visited, .inl (cI, 41, .inl z_t_visited))] := by
  refine k_startV (by decide) (Nat.le_of_ble_eq_true rfl) ?_
  intro p e s m below meth c A ls hx hb hr hml hown hts hlocks hT hZ hA hP hD hS hl
  have hK := hT.1
  have hu : ∀ w ∈ k_U, w.before ([.ref qt, .int p1] : List Value).toArray s = true := fun w h => hts w (List.mem_cons_of_mem _ h)
  have hown : s.vm.findClass RX0 = some m.cls := hown
  have hl : lv_has ls 2 [(0, .ref qt), (1, .int p1)] := hl
  unfold f_X0_startAt at h
  refine lv_aload_n hx hb dX0_startAt_0 rfl (lv_at hl 0 rfl) ?_
  refine lv_iconst (v := (0 : Int32)) hx hb dX0_startAt_1 (by decide) ?_
  refine va_put (D := D) (ci := 0) (v := .int (0 : Int32)) (ty := .int) (C := RX0) (T := TX0) (N := 12) hx hb hu k_iX0 tyX0 tyX0_ok nmX0 hown hK hP hD hS 0 rfl rfl 2 (by decide) (hu _ u_146) (fun _ h9 => h9) rfl (by decide +kernel) rfl rfl (Nat.le_of_ble_eq_true rfl) dX0_startAt_2 (fun H locs hP hD hS => ?_)
  have hP : va_P D vwCl [(qt, .inr (0, [.ref qn, .ref qy, .int (0 : Int32), .int t_cost, .int t_cause, .int t_place, .int t_computed, .int t_list, .int t_listed, .ref qt_visited, .ref qt_metLow, .ref qt_metHigh])), (qt_visited, .inl (cI, 41, .inl t_visited))] H := hP
  have hD : va_D A [(qt, .inr (0, [.ref qn, .ref qy, .int (0 : Int32), .int t_cost, .int t_cause, .int t_place, .int t_computed, .int t_list, .int t_listed, .ref qt_visited, .ref qt_metLow, .ref qt_metHigh])), (qt_visited, .inl (cI, 41, .inl t_visited))] := hD
  refine lv_aload_n hx hb dX0_startAt_5 rfl (lv_at hl 0 rfl) ?_
  refine lv_iconst (v := (0 : Int32)) hx hb dX0_startAt_6 (by decide) ?_
  refine va_put (D := D) (ci := 0) (v := .int (0 : Int32)) (ty := .int) (C := RX0) (T := TX0) (N := 12) hx hb hu k_iX0 tyX0 tyX0_ok nmX0 hown hK hP hD hS 0 rfl rfl 3 (by decide) (hu _ u_149) (fun _ h9 => h9) rfl (by decide +kernel) rfl rfl (Nat.le_of_ble_eq_true rfl) dX0_startAt_7 (fun H locs hP hD hS => ?_)
  have hP : va_P D vwCl [(qt, .inr (0, [.ref qn, .ref qy, .int (0 : Int32), .int (0 : Int32), .int t_cause, .int t_place, .int t_computed, .int t_list, .int t_listed, .ref qt_visited, .ref qt_metLow, .ref qt_metHigh])), (qt_visited, .inl (cI, 41, .inl t_visited))] H := hP
  have hD : va_D A [(qt, .inr (0, [.ref qn, .ref qy, .int (0 : Int32), .int (0 : Int32), .int t_cause, .int t_place, .int t_computed, .int t_list, .int t_listed, .ref qt_visited, .ref qt_metLow, .ref qt_metHigh])), (qt_visited, .inl (cI, 41, .inl t_visited))] := hD
  refine lv_aload_n hx hb dX0_startAt_10 rfl (lv_at hl 0 rfl) ?_
  refine lv_iconst (v := (0 : Int32)) hx hb dX0_startAt_11 (by decide) ?_
  refine va_put (D := D) (ci := 0) (v := .int (0 : Int32)) (ty := .int) (C := RX0) (T := TX0) (N := 12) hx hb hu k_iX0 tyX0 tyX0_ok nmX0 hown hK hP hD hS 0 rfl rfl 4 (by decide) (hu _ u_152) (fun _ h9 => h9) rfl (by decide +kernel) rfl rfl (Nat.le_of_ble_eq_true rfl) dX0_startAt_12 (fun H locs hP hD hS => ?_)
  have hP : va_P D vwCl [(qt, .inr (0, [.ref qn, .ref qy, .int (0 : Int32), .int (0 : Int32), .int (0 : Int32), .int t_place, .int t_computed, .int t_list, .int t_listed, .ref qt_visited, .ref qt_metLow, .ref qt_metHigh])), (qt_visited, .inl (cI, 41, .inl t_visited))] H := hP
  have hD : va_D A [(qt, .inr (0, [.ref qn, .ref qy, .int (0 : Int32), .int (0 : Int32), .int (0 : Int32), .int t_place, .int t_computed, .int t_list, .int t_listed, .ref qt_visited, .ref qt_metLow, .ref qt_metHigh])), (qt_visited, .inl (cI, 41, .inl t_visited))] := hD
  refine lv_aload_n hx hb dX0_startAt_15 rfl (lv_at hl 0 rfl) ?_
  refine lv_iload_n hx hb dX0_startAt_16 rfl (lv_at hl 1 rfl) ?_
  refine va_put (D := D) (ci := 0) (v := .int p1) (ty := .int) (C := RX0) (T := TX0) (N := 12) hx hb hu k_iX0 tyX0 tyX0_ok nmX0 hown hK hP hD hS 0 rfl rfl 5 (by decide) (hu _ u_154) (fun _ h9 => h9) rfl (by decide +kernel) rfl rfl (Nat.le_of_ble_eq_true rfl) dX0_startAt_17 (fun H locs hP hD hS => ?_)
  have hP : va_P D vwCl [(qt, .inr (0, [.ref qn, .ref qy, .int (0 : Int32), .int (0 : Int32), .int (0 : Int32), .int p1, .int t_computed, .int t_list, .int t_listed, .ref qt_visited, .ref qt_metLow, .ref qt_metHigh])), (qt_visited, .inl (cI, 41, .inl t_visited))] H := hP
  have hD : va_D A [(qt, .inr (0, [.ref qn, .ref qy, .int (0 : Int32), .int (0 : Int32), .int (0 : Int32), .int p1, .int t_computed, .int t_list, .int t_listed, .ref qt_visited, .ref qt_metLow, .ref qt_metHigh])), (qt_visited, .inl (cI, 41, .inl t_visited))] := hD
  refine lv_aload_n hx hb dX0_startAt_20 rfl (lv_at hl 0 rfl) ?_
  refine lv_iconst (v := (0 : Int32)) hx hb dX0_startAt_21 (by decide) ?_
  refine va_put (D := D) (ci := 0) (v := .int (0 : Int32)) (ty := .int) (C := RX0) (T := TX0) (N := 12) hx hb hu k_iX0 tyX0 tyX0_ok nmX0 hown hK hP hD hS 0 rfl rfl 6 (by decide) (hu _ u_156) (fun _ h9 => h9) rfl (by decide +kernel) rfl rfl (Nat.le_of_ble_eq_true rfl) dX0_startAt_22 (fun H locs hP hD hS => ?_)
  have hP : va_P D vwCl [(qt, .inr (0, [.ref qn, .ref qy, .int (0 : Int32), .int (0 : Int32), .int (0 : Int32), .int p1, .int (0 : Int32), .int t_list, .int t_listed, .ref qt_visited, .ref qt_metLow, .ref qt_metHigh])), (qt_visited, .inl (cI, 41, .inl t_visited))] H := hP
  have hD : va_D A [(qt, .inr (0, [.ref qn, .ref qy, .int (0 : Int32), .int (0 : Int32), .int (0 : Int32), .int p1, .int (0 : Int32), .int t_list, .int t_listed, .ref qt_visited, .ref qt_metLow, .ref qt_metHigh])), (qt_visited, .inl (cI, 41, .inl t_visited))] := hD
  refine lv_aload_n hx hb dX0_startAt_25 rfl (lv_at hl 0 rfl) ?_
  refine lv_iconst (v := (0 : Int32)) hx hb dX0_startAt_26 (by decide) ?_
  refine va_put (D := D) (ci := 0) (v := .int (0 : Int32)) (ty := .int) (C := RX0) (T := TX0) (N := 12) hx hb hu k_iX0 tyX0 tyX0_ok nmX0 hown hK hP hD hS 0 rfl rfl 7 (by decide) (hu _ u_158) (fun _ h9 => h9) rfl (by decide +kernel) rfl rfl (Nat.le_of_ble_eq_true rfl) dX0_startAt_27 (fun H locs hP hD hS => ?_)
  have hP : va_P D vwCl [(qt, .inr (0, [.ref qn, .ref qy, .int (0 : Int32), .int (0 : Int32), .int (0 : Int32), .int p1, .int (0 : Int32), .int (0 : Int32), .int t_listed, .ref qt_visited, .ref qt_metLow, .ref qt_metHigh])), (qt_visited, .inl (cI, 41, .inl t_visited))] H := hP
  have hD : va_D A [(qt, .inr (0, [.ref qn, .ref qy, .int (0 : Int32), .int (0 : Int32), .int (0 : Int32), .int p1, .int (0 : Int32), .int (0 : Int32), .int t_listed, .ref qt_visited, .ref qt_metLow, .ref qt_metHigh])), (qt_visited, .inl (cI, 41, .inl t_visited))] := hD
  refine lv_aload_n hx hb dX0_startAt_30 rfl (lv_at hl 0 rfl) ?_
  refine lv_iconst (v := (0 : Int32)) hx hb dX0_startAt_31 (by decide) ?_
  refine va_put (D := D) (ci := 0) (v := .int (0 : Int32)) (ty := .int) (C := RX0) (T := TX0) (N := 12) hx hb hu k_iX0 tyX0 tyX0_ok nmX0 hown hK hP hD hS 0 rfl rfl 8 (by decide) (hu _ u_160) (fun _ h9 => h9) rfl (by decide +kernel) rfl rfl (Nat.le_of_ble_eq_true rfl) dX0_startAt_32 (fun H locs hP hD hS => ?_)
  have hP : va_P D vwCl [(qt, .inr (0, [.ref qn, .ref qy, .int (0 : Int32), .int (0 : Int32), .int (0 : Int32), .int p1, .int (0 : Int32), .int (0 : Int32), .int (0 : Int32), .ref qt_visited, .ref qt_metLow, .ref qt_metHigh])), (qt_visited, .inl (cI, 41, .inl t_visited))] H := hP
  have hD : va_D A [(qt, .inr (0, [.ref qn, .ref qy, .int (0 : Int32), .int (0 : Int32), .int (0 : Int32), .int p1, .int (0 : Int32), .int (0 : Int32), .int (0 : Int32), .ref qt_visited, .ref qt_metLow, .ref qt_metHigh])), (qt_visited, .inl (cI, 41, .inl t_visited))] := hD
  refine lv_aload_n hx hb dX0_startAt_35 rfl (lv_at hl 0 rfl) ?_
  refine va_get (D := D) (ci := 0) (v := .ref qt_visited) (C := RX0) (T := TX0) (N := 12) hx hb hu k_iX0 hown hK hP 0 rfl rfl 9 (by decide) (hu _ u_163) (fun _ h9 => h9) rfl dX0_startAt_36 ?_
  refine lv_iconst (v := (0 : Int32)) hx hb dX0_startAt_39 (by decide) ?_
  refine lv_iload_n hx hb dX0_startAt_40 rfl (lv_at hl 1 rfl) ?_
  refine va_iast (D := D) hx hb hK hP hD hS 1 0 rfl rfl (inb_in (by decide)) dX0_startAt_41 (fun H locs hP hD hS => ?_)
  have hP : va_P D vwCl [(qt, .inr (0, [.ref qn, .ref qy, .int (0 : Int32), .int (0 : Int32), .int (0 : Int32), .int p1, .int (0 : Int32), .int (0 : Int32), .int (0 : Int32), .ref qt_visited, .ref qt_metLow, .ref qt_metHigh])), (qt_visited, .inl (cI, 41, .inl (upd t_visited (Int32.toNatClampNeg (0 : Int32)) p1)))] H := hP
  have hD : va_D A [(qt, .inr (0, [.ref qn, .ref qy, .int (0 : Int32), .int (0 : Int32), .int (0 : Int32), .int p1, .int (0 : Int32), .int (0 : Int32), .int (0 : Int32), .ref qt_visited, .ref qt_metLow, .ref qt_metHigh])), (qt_visited, .inl (cI, 41, .inl (upd t_visited (Int32.toNatClampNeg (0 : Int32)) p1)))] := hD
  have hq := h
  clear h
  obtain ⟨e0, hq0⟩ := Prod.mk.inj hq
  clear hq
  obtain ⟨e1, hq1⟩ := Prod.mk.inj hq0
  clear hq0
  obtain ⟨e2, hq2⟩ := Prod.mk.inj hq1
  clear hq1
  obtain ⟨e3, hq3⟩ := Prod.mk.inj hq2
  clear hq2
  obtain ⟨e4, hq4⟩ := Prod.mk.inj hq3
  clear hq3
  obtain ⟨e5, hq5⟩ := Prod.mk.inj hq4
  clear hq4
  obtain ⟨e6, hq6⟩ := Prod.mk.inj hq5
  clear hq5
  subst e0
  subst e1
  subst e2
  subst e3
  subst e4
  subst e5
  subst e6
  subst hq6
  exact k_retV hx hb hr hlocks hP hD hS dX0_startAt_42
def f_X0_meetDead (p1 : Int32) (p2 : Int32) (t_cause : Int32) (t_list : Int32) (t_listed : Int32) (t_metLow : (Nat → Int32)) (t_metHigh : (Nat → Int32)) (n_low : (Nat → Int32)) (n_high : (Nat → Int32)) : Option (Int32 × Int32 × Int32 × (Nat → Int32) × (Nat → Int32)) :=
  if p2 ≤ t_listed then
    some ((2 : Int32), t_list, t_listed, t_metLow, t_metHigh)
  else
    if t_listed < (18 : Int32) then
      if inb p1 18 = true then
      if inb t_listed 18 = true then
      some (t_cause, (f_X5_withBit t_list p1 (1 : Int32)), (t_listed + (1 : Int32)), (upd t_metLow (Int32.toNatClampNeg t_listed) (n_low (Int32.toNatClampNeg p1))), (upd t_metHigh (Int32.toNatClampNeg t_listed) (n_high (Int32.toNatClampNeg p1))))
      else none
      else none
    else
      some ((2 : Int32), t_list, t_listed, t_metLow, t_metHigh)
set_option maxHeartbeats 4000000 in
set_option maxRecDepth 100000 in
theorem c_X0_meetDead (l : Launch) (D : va_G) (cI cZ cN : ClassId) (aK aV : Nat → Nat)  (qt : Nat) (qt_visited : Nat) (qt_metLow : Nat) (qt_metHigh : Nat) (qy : Nat) (qn : Nat) (qn_low : Nat) (qn_high : Nat) (qn_length : Nat) (t_steps : Int32) (t_cost : Int32) (t_cause : Int32) (t_place : Int32) (t_computed : Int32) (t_list : Int32) (t_listed : Int32) (t_metLow : (Nat → Int32)) (t_metHigh : (Nat → Int32)) (n_nodes : Int32) (n_links : Int32) (n_room : Int32) (n_alive : Int32) (n_inMap : Int32) (n_low : (Nat → Int32)) (n_high : (Nat → Int32)) (p1 p2 : Int32) (z_t_cause : Int32) (z_t_list : Int32) (z_t_listed : Int32) (z_t_metLow : (Nat → Int32)) (z_t_metHigh : (Nat → Int32)) (h : f_X0_meetDead p1 p2 t_cause t_list t_listed t_metLow t_metHigh n_low n_high = some (z_t_cause, z_t_list, z_t_listed, z_t_metLow, z_t_metHigh)) : CtV l D cI cZ cN aK aV yX0_meetDead (k_W yX0_meetDead cX0_meetDead 3 none) { frames := 1, cells := 0, slots := 0, locals := 22 } [.ref qt, .int p1, .int p2] [(qt, .inr (0, [.ref qn, .ref qy, .int t_steps, .int t_cost, .int t_cause, .int t_place, .int t_computed, .int t_list, .int t_listed, .ref qt_visited, .ref qt_metLow, .ref qt_metHigh])), (qt_metLow, .inl (cI, 18, .inl t_metLow)), (qt_metHigh, .inl (cI, 18, .inl t_metHigh)), (qn, .inr (1, [.int n_nodes, .int n_links, .int n_room, .int n_alive, .int n_inMap, .ref qn_low, .ref qn_high, .ref qn_length])), (qn_low, .inl (cI, 18, .inl n_low)), (qn_high, .inl (cI, 18, .inl n_high))] [(qt, .inr (0, [.ref qn, .ref qy, .int t_steps, .int t_cost, .int z_t_cause, .int t_place, .int t_computed, .int z_t_list, .int z_t_listed, .ref qt_visited, .ref qt_metLow, .ref qt_metHigh])), (qt_metLow, .inl (cI, 18, .inl z_t_metLow)), (qt_metHigh, .inl (cI, 18, .inl z_t_metHigh)), (qn, .inr (1, [.int n_nodes, .int n_links, .int n_room, .int n_alive, .int n_inMap, .ref qn_low, .ref qn_high, .ref qn_length])), (qn_low, .inl (cI, 18, .inl n_low)), (qn_high, .inl (cI, 18, .inl n_high))] := by
  refine k_startV (by decide) (Nat.le_of_ble_eq_true rfl) ?_
  intro p e s m below meth c A ls hx hb hr hml hown hts hlocks hT hZ hA hP hD hS hl
  have hK := hT.1
  have hu : ∀ w ∈ k_U, w.before ([.ref qt, .int p1, .int p2] : List Value).toArray s = true := fun w h => hts w (List.mem_cons_of_mem _ h)
  have hown : s.vm.findClass RX0 = some m.cls := hown
  have hl : lv_has ls 3 [(0, .ref qt), (1, .int p1), (2, .int p2)] := hl
  unfold f_X0_meetDead at h
  refine lv_aload_n hx hb dX0_meetDead_0 rfl (lv_at hl 0 rfl) ?_
  refine va_get (D := D) (ci := 0) (v := .int t_listed) (C := RX0) (T := TX0) (N := 12) hx hb hu k_iX0 hown hK hP 0 rfl rfl 8 (by decide) (hu _ u_160) (fun _ h9 => h9) rfl dX0_meetDead_1 ?_
  refine lv_iload_n hx hb dX0_meetDead_4 rfl (lv_at hl 2 rfl) ?_
  refine lv_icmp_ge (tgt := 17) hx hb dX0_meetDead_5 (by decide) (fun cc_1 => ?_) (fun cc_1 => ?_)
  · have h := (if_pos cc_1).symm.trans h
    refine lv_aload_n hx hb dX0_meetDead_17 rfl (lv_at hl 0 rfl) ?_
    refine lv_iconst (v := (2 : Int32)) hx hb dX0_meetDead_18 (by decide) ?_
    refine va_put (D := D) (ci := 0) (v := .int (2 : Int32)) (ty := .int) (C := RX0) (T := TX0) (N := 12) hx hb hu k_iX0 tyX0 tyX0_ok nmX0 hown hK hP hD hS 0 rfl rfl 4 (by decide) (hu _ u_152) (fun _ h9 => h9) rfl (by decide +kernel) rfl rfl (Nat.le_of_ble_eq_true rfl) dX0_meetDead_19 (fun H locs hP hD hS => ?_)
    have hP : va_P D vwCl [(qt, .inr (0, [.ref qn, .ref qy, .int t_steps, .int t_cost, .int (2 : Int32), .int t_place, .int t_computed, .int t_list, .int t_listed, .ref qt_visited, .ref qt_metLow, .ref qt_metHigh])), (qt_metLow, .inl (cI, 18, .inl t_metLow)), (qt_metHigh, .inl (cI, 18, .inl t_metHigh)), (qn, .inr (1, [.int n_nodes, .int n_links, .int n_room, .int n_alive, .int n_inMap, .ref qn_low, .ref qn_high, .ref qn_length])), (qn_low, .inl (cI, 18, .inl n_low)), (qn_high, .inl (cI, 18, .inl n_high))] H := hP
    have hD : va_D A [(qt, .inr (0, [.ref qn, .ref qy, .int t_steps, .int t_cost, .int (2 : Int32), .int t_place, .int t_computed, .int t_list, .int t_listed, .ref qt_visited, .ref qt_metLow, .ref qt_metHigh])), (qt_metLow, .inl (cI, 18, .inl t_metLow)), (qt_metHigh, .inl (cI, 18, .inl t_metHigh)), (qn, .inr (1, [.int n_nodes, .int n_links, .int n_room, .int n_alive, .int n_inMap, .ref qn_low, .ref qn_high, .ref qn_length])), (qn_low, .inl (cI, 18, .inl n_low)), (qn_high, .inl (cI, 18, .inl n_high))] := hD
    have hq := Option.some.inj h
    clear h
    obtain ⟨e0, hq0⟩ := Prod.mk.inj hq
    clear hq
    obtain ⟨e1, hq1⟩ := Prod.mk.inj hq0
    clear hq0
    obtain ⟨e2, hq2⟩ := Prod.mk.inj hq1
    clear hq1
    obtain ⟨e3, hq3⟩ := Prod.mk.inj hq2
    clear hq2
    subst e0
    subst e1
    subst e2
    subst e3
    subst hq3
    exact k_retV hx hb hr hlocks hP hD hS dX0_meetDead_22
  · have h := (if_neg cc_1).symm.trans h
    refine lv_aload_n hx hb dX0_meetDead_8 rfl (lv_at hl 0 rfl) ?_
    refine va_get (D := D) (ci := 0) (v := .int t_listed) (C := RX0) (T := TX0) (N := 12) hx hb hu k_iX0 hown hK hP 0 rfl rfl 8 (by decide) (hu _ u_160) (fun _ h9 => h9) rfl dX0_meetDead_9 ?_
    refine lv_bipush (v := (18 : Int32)) hx hb dX0_meetDead_12 (by decide) ?_
    refine lv_icmp_lt (tgt := 23) hx hb dX0_meetDead_14 (by decide) (fun cc_2 => ?_) (fun cc_2 => ?_)
    · have h := (if_pos cc_2).symm.trans h
      refine lv_aload_n hx hb dX0_meetDead_23 rfl (lv_at hl 0 rfl) ?_
      refine va_get (D := D) (ci := 0) (v := .ref qt_metLow) (C := RX0) (T := TX0) (N := 12) hx hb hu k_iX0 hown hK hP 0 rfl rfl 10 (by decide) (hu _ u_165) (fun _ h9 => h9) rfl dX0_meetDead_24 ?_
      refine lv_aload_n hx hb dX0_meetDead_27 rfl (lv_at hl 0 rfl) ?_
      refine va_get (D := D) (ci := 0) (v := .int t_listed) (C := RX0) (T := TX0) (N := 12) hx hb hu k_iX0 hown hK hP 0 rfl rfl 8 (by decide) (hu _ u_160) (fun _ h9 => h9) rfl dX0_meetDead_28 ?_
      refine lv_aload_n hx hb dX0_meetDead_31 rfl (lv_at hl 0 rfl) ?_
      refine va_get (D := D) (ci := 0) (v := .ref qn) (C := RX0) (T := TX0) (N := 12) hx hb hu k_iX0 hown hK hP 0 rfl rfl 0 (by decide) (hu _ u_144) (fun _ h9 => h9) rfl dX0_meetDead_32 ?_
      refine va_get (D := D) (ci := 1) (v := .ref qn_low) (C := RX1) (T := TX1) (N := 8) hx hb hu k_iX1 hown hK hP 3 rfl rfl 5 (by decide) (hu _ u_93) (fun _ h9 => h9) rfl dX0_meetDead_35 ?_
      refine lv_iload_n hx hb dX0_meetDead_38 rfl (lv_at hl 1 rfl) ?_
      obtain ⟨hin_3, h⟩ := ob_if h
      have hin_3 := inb_in hin_3
      refine va_iald (D := D) hx hb hK hP 4 0 rfl rfl hin_3 dX0_meetDead_39 ?_
      obtain ⟨hin_4, h⟩ := ob_if h
      have hin_4 := inb_in hin_4
      refine va_iast (D := D) hx hb hK hP hD hS 1 0 rfl rfl hin_4 dX0_meetDead_40 (fun H locs hP hD hS => ?_)
      have hP : va_P D vwCl [(qt, .inr (0, [.ref qn, .ref qy, .int t_steps, .int t_cost, .int t_cause, .int t_place, .int t_computed, .int t_list, .int t_listed, .ref qt_visited, .ref qt_metLow, .ref qt_metHigh])), (qt_metLow, .inl (cI, 18, .inl (upd t_metLow (Int32.toNatClampNeg t_listed) (n_low (Int32.toNatClampNeg p1))))), (qt_metHigh, .inl (cI, 18, .inl t_metHigh)), (qn, .inr (1, [.int n_nodes, .int n_links, .int n_room, .int n_alive, .int n_inMap, .ref qn_low, .ref qn_high, .ref qn_length])), (qn_low, .inl (cI, 18, .inl n_low)), (qn_high, .inl (cI, 18, .inl n_high))] H := hP
      have hD : va_D A [(qt, .inr (0, [.ref qn, .ref qy, .int t_steps, .int t_cost, .int t_cause, .int t_place, .int t_computed, .int t_list, .int t_listed, .ref qt_visited, .ref qt_metLow, .ref qt_metHigh])), (qt_metLow, .inl (cI, 18, .inl (upd t_metLow (Int32.toNatClampNeg t_listed) (n_low (Int32.toNatClampNeg p1))))), (qt_metHigh, .inl (cI, 18, .inl t_metHigh)), (qn, .inr (1, [.int n_nodes, .int n_links, .int n_room, .int n_alive, .int n_inMap, .ref qn_low, .ref qn_high, .ref qn_length])), (qn_low, .inl (cI, 18, .inl n_low)), (qn_high, .inl (cI, 18, .inl n_high))] := hD
      refine lv_aload_n hx hb dX0_meetDead_41 rfl (lv_at hl 0 rfl) ?_
      refine va_get (D := D) (ci := 0) (v := .ref qt_metHigh) (C := RX0) (T := TX0) (N := 12) hx hb hu k_iX0 hown hK hP 0 rfl rfl 11 (by decide) (hu _ u_167) (fun _ h9 => h9) rfl dX0_meetDead_42 ?_
      refine lv_aload_n hx hb dX0_meetDead_45 rfl (lv_at hl 0 rfl) ?_
      refine va_get (D := D) (ci := 0) (v := .int t_listed) (C := RX0) (T := TX0) (N := 12) hx hb hu k_iX0 hown hK hP 0 rfl rfl 8 (by decide) (hu _ u_160) (fun _ h9 => h9) rfl dX0_meetDead_46 ?_
      refine lv_aload_n hx hb dX0_meetDead_49 rfl (lv_at hl 0 rfl) ?_
      refine va_get (D := D) (ci := 0) (v := .ref qn) (C := RX0) (T := TX0) (N := 12) hx hb hu k_iX0 hown hK hP 0 rfl rfl 0 (by decide) (hu _ u_144) (fun _ h9 => h9) rfl dX0_meetDead_50 ?_
      refine va_get (D := D) (ci := 1) (v := .ref qn_high) (C := RX1) (T := TX1) (N := 8) hx hb hu k_iX1 hown hK hP 3 rfl rfl 6 (by decide) (hu _ u_97) (fun _ h9 => h9) rfl dX0_meetDead_53 ?_
      refine lv_iload_n hx hb dX0_meetDead_56 rfl (lv_at hl 1 rfl) ?_
      refine va_iald (D := D) hx hb hK hP 5 0 rfl rfl hin_3 dX0_meetDead_57 ?_
      refine va_iast (D := D) hx hb hK hP hD hS 2 0 rfl rfl hin_4 dX0_meetDead_58 (fun H locs hP hD hS => ?_)
      have hP : va_P D vwCl [(qt, .inr (0, [.ref qn, .ref qy, .int t_steps, .int t_cost, .int t_cause, .int t_place, .int t_computed, .int t_list, .int t_listed, .ref qt_visited, .ref qt_metLow, .ref qt_metHigh])), (qt_metLow, .inl (cI, 18, .inl (upd t_metLow (Int32.toNatClampNeg t_listed) (n_low (Int32.toNatClampNeg p1))))), (qt_metHigh, .inl (cI, 18, .inl (upd t_metHigh (Int32.toNatClampNeg t_listed) (n_high (Int32.toNatClampNeg p1))))), (qn, .inr (1, [.int n_nodes, .int n_links, .int n_room, .int n_alive, .int n_inMap, .ref qn_low, .ref qn_high, .ref qn_length])), (qn_low, .inl (cI, 18, .inl n_low)), (qn_high, .inl (cI, 18, .inl n_high))] H := hP
      have hD : va_D A [(qt, .inr (0, [.ref qn, .ref qy, .int t_steps, .int t_cost, .int t_cause, .int t_place, .int t_computed, .int t_list, .int t_listed, .ref qt_visited, .ref qt_metLow, .ref qt_metHigh])), (qt_metLow, .inl (cI, 18, .inl (upd t_metLow (Int32.toNatClampNeg t_listed) (n_low (Int32.toNatClampNeg p1))))), (qt_metHigh, .inl (cI, 18, .inl (upd t_metHigh (Int32.toNatClampNeg t_listed) (n_high (Int32.toNatClampNeg p1))))), (qn, .inr (1, [.int n_nodes, .int n_links, .int n_room, .int n_alive, .int n_inMap, .ref qn_low, .ref qn_high, .ref qn_length])), (qn_low, .inl (cI, 18, .inl n_low)), (qn_high, .inl (cI, 18, .inl n_high))] := hD
      refine lv_aload_n hx hb dX0_meetDead_59 rfl (lv_at hl 0 rfl) ?_
      refine lv_aload_n hx hb dX0_meetDead_60 rfl (lv_at hl 0 rfl) ?_
      refine va_get (D := D) (ci := 0) (v := .int t_list) (C := RX0) (T := TX0) (N := 12) hx hb hu k_iX0 hown hK hP 0 rfl rfl 7 (by decide) (hu _ u_158) (fun _ h9 => h9) rfl dX0_meetDead_61 ?_
      refine lv_iload_n hx hb dX0_meetDead_64 rfl (lv_at hl 1 rfl) ?_
      refine lv_iconst (v := (1 : Int32)) hx hb dX0_meetDead_65 (by decide) ?_
      refine k_call0N (As := [.int t_list, .int p1, .int (1 : Int32)]) (rest := [.ref qt]) ⟨hx, hb, hml, hown, hts⟩ hT hZ hA hP hD hS (c_X5_withBit l D cI cZ cN aK aV t_list p1 (1 : Int32) _ rfl) ⟨va_cnB 3 hts (k_good u_368) rfl rfl rfl hT.2.2.2.2.2.2.2.2.1 (hu _ u_45) (by decide +kernel) ⟨Nat.le_of_ble_eq_true rfl, Nat.le_of_ble_eq_true rfl⟩, hu _ u_367, trivial⟩ rfl hl.1 rfl (Nat.le_of_ble_eq_true rfl) dX0_meetDead_66 (fun H locs hP hD hS => ?_)
      refine va_put (D := D) (ci := 0) (v := .int (f_X5_withBit t_list p1 (1 : Int32))) (ty := .int) (C := RX0) (T := TX0) (N := 12) hx hb hu k_iX0 tyX0 tyX0_ok nmX0 hown hK hP hD hS 0 rfl rfl 7 (by decide) (hu _ u_158) (fun _ h9 => h9) rfl (by decide +kernel) rfl rfl (Nat.le_of_ble_eq_true rfl) dX0_meetDead_69 (fun H locs hP hD hS => ?_)
      have hP : va_P D vwCl [(qt, .inr (0, [.ref qn, .ref qy, .int t_steps, .int t_cost, .int t_cause, .int t_place, .int t_computed, .int (f_X5_withBit t_list p1 (1 : Int32)), .int t_listed, .ref qt_visited, .ref qt_metLow, .ref qt_metHigh])), (qt_metLow, .inl (cI, 18, .inl (upd t_metLow (Int32.toNatClampNeg t_listed) (n_low (Int32.toNatClampNeg p1))))), (qt_metHigh, .inl (cI, 18, .inl (upd t_metHigh (Int32.toNatClampNeg t_listed) (n_high (Int32.toNatClampNeg p1))))), (qn, .inr (1, [.int n_nodes, .int n_links, .int n_room, .int n_alive, .int n_inMap, .ref qn_low, .ref qn_high, .ref qn_length])), (qn_low, .inl (cI, 18, .inl n_low)), (qn_high, .inl (cI, 18, .inl n_high))] H := hP
      have hD : va_D A [(qt, .inr (0, [.ref qn, .ref qy, .int t_steps, .int t_cost, .int t_cause, .int t_place, .int t_computed, .int (f_X5_withBit t_list p1 (1 : Int32)), .int t_listed, .ref qt_visited, .ref qt_metLow, .ref qt_metHigh])), (qt_metLow, .inl (cI, 18, .inl (upd t_metLow (Int32.toNatClampNeg t_listed) (n_low (Int32.toNatClampNeg p1))))), (qt_metHigh, .inl (cI, 18, .inl (upd t_metHigh (Int32.toNatClampNeg t_listed) (n_high (Int32.toNatClampNeg p1))))), (qn, .inr (1, [.int n_nodes, .int n_links, .int n_room, .int n_alive, .int n_inMap, .ref qn_low, .ref qn_high, .ref qn_length])), (qn_low, .inl (cI, 18, .inl n_low)), (qn_high, .inl (cI, 18, .inl n_high))] := hD
      refine lv_aload_n hx hb dX0_meetDead_72 rfl (lv_at hl 0 rfl) ?_
      refine lv_dup hx hb dX0_meetDead_73 rfl ?_
      refine va_get (D := D) (ci := 0) (v := .int t_listed) (C := RX0) (T := TX0) (N := 12) hx hb hu k_iX0 hown hK hP 0 rfl rfl 8 (by decide) (hu _ u_160) (fun _ h9 => h9) rfl dX0_meetDead_74 ?_
      refine lv_iconst (v := (1 : Int32)) hx hb dX0_meetDead_77 (by decide) ?_
      refine lv_iadd hx hb dX0_meetDead_78 ?_
      refine va_put (D := D) (ci := 0) (v := .int (t_listed + (1 : Int32))) (ty := .int) (C := RX0) (T := TX0) (N := 12) hx hb hu k_iX0 tyX0 tyX0_ok nmX0 hown hK hP hD hS 0 rfl rfl 8 (by decide) (hu _ u_160) (fun _ h9 => h9) rfl (by decide +kernel) rfl rfl (Nat.le_of_ble_eq_true rfl) dX0_meetDead_79 (fun H locs hP hD hS => ?_)
      have hP : va_P D vwCl [(qt, .inr (0, [.ref qn, .ref qy, .int t_steps, .int t_cost, .int t_cause, .int t_place, .int t_computed, .int (f_X5_withBit t_list p1 (1 : Int32)), .int (t_listed + (1 : Int32)), .ref qt_visited, .ref qt_metLow, .ref qt_metHigh])), (qt_metLow, .inl (cI, 18, .inl (upd t_metLow (Int32.toNatClampNeg t_listed) (n_low (Int32.toNatClampNeg p1))))), (qt_metHigh, .inl (cI, 18, .inl (upd t_metHigh (Int32.toNatClampNeg t_listed) (n_high (Int32.toNatClampNeg p1))))), (qn, .inr (1, [.int n_nodes, .int n_links, .int n_room, .int n_alive, .int n_inMap, .ref qn_low, .ref qn_high, .ref qn_length])), (qn_low, .inl (cI, 18, .inl n_low)), (qn_high, .inl (cI, 18, .inl n_high))] H := hP
      have hD : va_D A [(qt, .inr (0, [.ref qn, .ref qy, .int t_steps, .int t_cost, .int t_cause, .int t_place, .int t_computed, .int (f_X5_withBit t_list p1 (1 : Int32)), .int (t_listed + (1 : Int32)), .ref qt_visited, .ref qt_metLow, .ref qt_metHigh])), (qt_metLow, .inl (cI, 18, .inl (upd t_metLow (Int32.toNatClampNeg t_listed) (n_low (Int32.toNatClampNeg p1))))), (qt_metHigh, .inl (cI, 18, .inl (upd t_metHigh (Int32.toNatClampNeg t_listed) (n_high (Int32.toNatClampNeg p1))))), (qn, .inr (1, [.int n_nodes, .int n_links, .int n_room, .int n_alive, .int n_inMap, .ref qn_low, .ref qn_high, .ref qn_length])), (qn_low, .inl (cI, 18, .inl n_low)), (qn_high, .inl (cI, 18, .inl n_high))] := hD
      have hq := Option.some.inj h
      clear h
      obtain ⟨e0, hq0⟩ := Prod.mk.inj hq
      clear hq
      obtain ⟨e1, hq1⟩ := Prod.mk.inj hq0
      clear hq0
      obtain ⟨e2, hq2⟩ := Prod.mk.inj hq1
      clear hq1
      obtain ⟨e3, hq3⟩ := Prod.mk.inj hq2
      clear hq2
      subst e0
      subst e1
      subst e2
      subst e3
      subst hq3
      exact k_retV hx hb hr hlocks hP hD hS dX0_meetDead_82
    · have h := (if_neg cc_2).symm.trans h
      refine lv_aload_n hx hb dX0_meetDead_17 rfl (lv_at hl 0 rfl) ?_
      refine lv_iconst (v := (2 : Int32)) hx hb dX0_meetDead_18 (by decide) ?_
      refine va_put (D := D) (ci := 0) (v := .int (2 : Int32)) (ty := .int) (C := RX0) (T := TX0) (N := 12) hx hb hu k_iX0 tyX0 tyX0_ok nmX0 hown hK hP hD hS 0 rfl rfl 4 (by decide) (hu _ u_152) (fun _ h9 => h9) rfl (by decide +kernel) rfl rfl (Nat.le_of_ble_eq_true rfl) dX0_meetDead_19 (fun H locs hP hD hS => ?_)
      have hP : va_P D vwCl [(qt, .inr (0, [.ref qn, .ref qy, .int t_steps, .int t_cost, .int (2 : Int32), .int t_place, .int t_computed, .int t_list, .int t_listed, .ref qt_visited, .ref qt_metLow, .ref qt_metHigh])), (qt_metLow, .inl (cI, 18, .inl t_metLow)), (qt_metHigh, .inl (cI, 18, .inl t_metHigh)), (qn, .inr (1, [.int n_nodes, .int n_links, .int n_room, .int n_alive, .int n_inMap, .ref qn_low, .ref qn_high, .ref qn_length])), (qn_low, .inl (cI, 18, .inl n_low)), (qn_high, .inl (cI, 18, .inl n_high))] H := hP
      have hD : va_D A [(qt, .inr (0, [.ref qn, .ref qy, .int t_steps, .int t_cost, .int (2 : Int32), .int t_place, .int t_computed, .int t_list, .int t_listed, .ref qt_visited, .ref qt_metLow, .ref qt_metHigh])), (qt_metLow, .inl (cI, 18, .inl t_metLow)), (qt_metHigh, .inl (cI, 18, .inl t_metHigh)), (qn, .inr (1, [.int n_nodes, .int n_links, .int n_room, .int n_alive, .int n_inMap, .ref qn_low, .ref qn_high, .ref qn_length])), (qn_low, .inl (cI, 18, .inl n_low)), (qn_high, .inl (cI, 18, .inl n_high))] := hD
      have hq := Option.some.inj h
      clear h
      obtain ⟨e0, hq0⟩ := Prod.mk.inj hq
      clear hq
      obtain ⟨e1, hq1⟩ := Prod.mk.inj hq0
      clear hq0
      obtain ⟨e2, hq2⟩ := Prod.mk.inj hq1
      clear hq1
      obtain ⟨e3, hq3⟩ := Prod.mk.inj hq2
      clear hq2
      subst e0
      subst e1
      subst e2
      subst e3
      subst hq3
      exact k_retV hx hb hr hlocks hP hD hS dX0_meetDead_22
def f_X0_goAlong (p1 : Int32) (t_steps : Int32) (t_cost : Int32) (t_place : Int32) (t_visited : (Nat → Int32)) (n_low : (Nat → Int32)) (n_high : (Nat → Int32)) (n_length : (Nat → Int32)) : Option (Int32 × Int32 × Int32 × (Nat → Int32)) :=
  (f_X1_otherEnd p1 t_place n_low n_high).bind fun r_1 =>
  if inb p1 18 = true then
  if inb (t_steps + (1 : Int32)) 41 = true then
  some ((t_steps + (1 : Int32)), (t_cost + (n_length (Int32.toNatClampNeg p1))), r_1, (upd t_visited (Int32.toNatClampNeg (t_steps + (1 : Int32))) r_1))
  else none
  else none
set_option maxHeartbeats 4000000 in
set_option maxRecDepth 100000 in
theorem c_X0_goAlong (l : Launch) (D : va_G) (cI cZ cN : ClassId) (aK aV : Nat → Nat)  (qt : Nat) (qt_visited : Nat) (qt_metLow : Nat) (qt_metHigh : Nat) (qy : Nat) (qn : Nat) (qn_low : Nat) (qn_high : Nat) (qn_length : Nat) (t_steps : Int32) (t_cost : Int32) (t_cause : Int32) (t_place : Int32) (t_computed : Int32) (t_list : Int32) (t_listed : Int32) (t_visited : (Nat → Int32)) (n_nodes : Int32) (n_links : Int32) (n_room : Int32) (n_alive : Int32) (n_inMap : Int32) (n_low : (Nat → Int32)) (n_high : (Nat → Int32)) (n_length : (Nat → Int32)) (p1 : Int32) (z_t_steps : Int32) (z_t_cost : Int32) (z_t_place : Int32) (z_t_visited : (Nat → Int32)) (h : f_X0_goAlong p1 t_steps t_cost t_place t_visited n_low n_high n_length = some (z_t_steps, z_t_cost, z_t_place, z_t_visited)) : CtV l D cI cZ cN aK aV yX0_goAlong (k_W yX0_goAlong cX0_goAlong 2 none) { frames := 1, cells := 0, slots := 0, locals := 22 } [.ref qt, .int p1] [(qt, .inr (0, [.ref qn, .ref qy, .int t_steps, .int t_cost, .int t_cause, .int t_place, .int t_computed, .int t_list, .int t_listed, .ref qt_visited, .ref qt_metLow, .ref qt_metHigh])), (qt_visited, .inl (cI, 41, .inl t_visited)), (qn, .inr (1, [.int n_nodes, .int n_links, .int n_room, .int n_alive, .int n_inMap, .ref qn_low, .ref qn_high, .ref qn_length])), (qn_low, .inl (cI, 18, .inl n_low)), (qn_high, .inl (cI, 18, .inl n_high)), (qn_length, .inl (cI, 18, .inl n_length))] [(qt, .inr (0, [.ref qn, .ref qy, .int z_t_steps, .int z_t_cost, .int t_cause, .int z_t_place, .int t_computed, .int t_list, .int t_listed, .ref qt_visited, .ref qt_metLow, .ref qt_metHigh])), (qt_visited, .inl (cI, 41, .inl z_t_visited)), (qn, .inr (1, [.int n_nodes, .int n_links, .int n_room, .int n_alive, .int n_inMap, .ref qn_low, .ref qn_high, .ref qn_length])), (qn_low, .inl (cI, 18, .inl n_low)), (qn_high, .inl (cI, 18, .inl n_high)), (qn_length, .inl (cI, 18, .inl n_length))] := by
  refine k_startV (by decide) (Nat.le_of_ble_eq_true rfl) ?_
  intro p e s m below meth c A ls hx hb hr hml hown hts hlocks hT hZ hA hP hD hS hl
  have hK := hT.1
  have hu : ∀ w ∈ k_U, w.before ([.ref qt, .int p1] : List Value).toArray s = true := fun w h => hts w (List.mem_cons_of_mem _ h)
  have hown : s.vm.findClass RX0 = some m.cls := hown
  have hl : lv_has ls 2 [(0, .ref qt), (1, .int p1)] := hl
  unfold f_X0_goAlong at h
  refine lv_aload_n hx hb dX0_goAlong_0 rfl (lv_at hl 0 rfl) ?_
  refine lv_aload_n hx hb dX0_goAlong_1 rfl (lv_at hl 0 rfl) ?_
  refine va_get (D := D) (ci := 0) (v := .ref qn) (C := RX0) (T := TX0) (N := 12) hx hb hu k_iX0 hown hK hP 0 rfl rfl 0 (by decide) (hu _ u_144) (fun _ h9 => h9) rfl dX0_goAlong_2 ?_
  refine lv_iload_n hx hb dX0_goAlong_5 rfl (lv_at hl 1 rfl) ?_
  refine lv_aload_n hx hb dX0_goAlong_6 rfl (lv_at hl 0 rfl) ?_
  refine va_get (D := D) (ci := 0) (v := .int t_place) (C := RX0) (T := TX0) (N := 12) hx hb hu k_iX0 hown hK hP 0 rfl rfl 5 (by decide) (hu _ u_154) (fun _ h9 => h9) rfl dX0_goAlong_7 ?_
  obtain ⟨r_1, hc_2, h⟩ := ob_bind h
  refine k_callVIr (qb := 0) [2, 3, 4] (As := [.int p1, .int t_place]) (rest := [.ref qt]) ⟨hx, hb, hml, hown, hts⟩ hT hZ hA hP hD hS (c_X1_otherEnd l D cI cZ cN aK aV qn qn_low qn_high qn_length n_nodes n_links n_room n_alive n_inMap n_low n_high p1 t_place r_1 hc_2) ⟨callB_of 2 hts (k_good u_497) rfl rfl rfl (hu _ u_46) (hu _ u_531) (by decide +kernel) ⟨Nat.le_of_ble_eq_true rfl, Nat.le_of_ble_eq_true rfl⟩, hu _ u_495, hu _ u_496⟩ rfl rfl rfl (by decide) rfl hl.1 rfl (Nat.le_of_ble_eq_true rfl) dX0_goAlong_10 (fun H locs hP hD hS => ?_)
  refine va_put (D := D) (ci := 0) (v := .int r_1) (ty := .int) (C := RX0) (T := TX0) (N := 12) hx hb hu k_iX0 tyX0 tyX0_ok nmX0 hown hK hP hD hS 0 rfl rfl 5 (by decide) (hu _ u_154) (fun _ h9 => h9) rfl (by decide +kernel) rfl rfl (Nat.le_of_ble_eq_true rfl) dX0_goAlong_13 (fun H locs hP hD hS => ?_)
  have hP : va_P D vwCl [(qt, .inr (0, [.ref qn, .ref qy, .int t_steps, .int t_cost, .int t_cause, .int r_1, .int t_computed, .int t_list, .int t_listed, .ref qt_visited, .ref qt_metLow, .ref qt_metHigh])), (qt_visited, .inl (cI, 41, .inl t_visited)), (qn, .inr (1, [.int n_nodes, .int n_links, .int n_room, .int n_alive, .int n_inMap, .ref qn_low, .ref qn_high, .ref qn_length])), (qn_low, .inl (cI, 18, .inl n_low)), (qn_high, .inl (cI, 18, .inl n_high)), (qn_length, .inl (cI, 18, .inl n_length))] H := hP
  have hD : va_D A [(qt, .inr (0, [.ref qn, .ref qy, .int t_steps, .int t_cost, .int t_cause, .int r_1, .int t_computed, .int t_list, .int t_listed, .ref qt_visited, .ref qt_metLow, .ref qt_metHigh])), (qt_visited, .inl (cI, 41, .inl t_visited)), (qn, .inr (1, [.int n_nodes, .int n_links, .int n_room, .int n_alive, .int n_inMap, .ref qn_low, .ref qn_high, .ref qn_length])), (qn_low, .inl (cI, 18, .inl n_low)), (qn_high, .inl (cI, 18, .inl n_high)), (qn_length, .inl (cI, 18, .inl n_length))] := hD
  refine lv_aload_n hx hb dX0_goAlong_16 rfl (lv_at hl 0 rfl) ?_
  refine lv_dup hx hb dX0_goAlong_17 rfl ?_
  refine va_get (D := D) (ci := 0) (v := .int t_cost) (C := RX0) (T := TX0) (N := 12) hx hb hu k_iX0 hown hK hP 0 rfl rfl 3 (by decide) (hu _ u_149) (fun _ h9 => h9) rfl dX0_goAlong_18 ?_
  refine lv_aload_n hx hb dX0_goAlong_21 rfl (lv_at hl 0 rfl) ?_
  refine va_get (D := D) (ci := 0) (v := .ref qn) (C := RX0) (T := TX0) (N := 12) hx hb hu k_iX0 hown hK hP 0 rfl rfl 0 (by decide) (hu _ u_144) (fun _ h9 => h9) rfl dX0_goAlong_22 ?_
  refine va_get (D := D) (ci := 1) (v := .ref qn_length) (C := RX1) (T := TX1) (N := 8) hx hb hu k_iX1 hown hK hP 2 rfl rfl 7 (by decide) (hu _ u_101) (fun _ h9 => h9) rfl dX0_goAlong_25 ?_
  refine lv_iload_n hx hb dX0_goAlong_28 rfl (lv_at hl 1 rfl) ?_
  obtain ⟨hin_3, h⟩ := ob_if h
  have hin_3 := inb_in hin_3
  refine va_iald (D := D) hx hb hK hP 5 0 rfl rfl hin_3 dX0_goAlong_29 ?_
  refine lv_iadd hx hb dX0_goAlong_30 ?_
  refine va_put (D := D) (ci := 0) (v := .int (t_cost + (n_length (Int32.toNatClampNeg p1)))) (ty := .int) (C := RX0) (T := TX0) (N := 12) hx hb hu k_iX0 tyX0 tyX0_ok nmX0 hown hK hP hD hS 0 rfl rfl 3 (by decide) (hu _ u_149) (fun _ h9 => h9) rfl (by decide +kernel) rfl rfl (Nat.le_of_ble_eq_true rfl) dX0_goAlong_31 (fun H locs hP hD hS => ?_)
  have hP : va_P D vwCl [(qt, .inr (0, [.ref qn, .ref qy, .int t_steps, .int (t_cost + (n_length (Int32.toNatClampNeg p1))), .int t_cause, .int r_1, .int t_computed, .int t_list, .int t_listed, .ref qt_visited, .ref qt_metLow, .ref qt_metHigh])), (qt_visited, .inl (cI, 41, .inl t_visited)), (qn, .inr (1, [.int n_nodes, .int n_links, .int n_room, .int n_alive, .int n_inMap, .ref qn_low, .ref qn_high, .ref qn_length])), (qn_low, .inl (cI, 18, .inl n_low)), (qn_high, .inl (cI, 18, .inl n_high)), (qn_length, .inl (cI, 18, .inl n_length))] H := hP
  have hD : va_D A [(qt, .inr (0, [.ref qn, .ref qy, .int t_steps, .int (t_cost + (n_length (Int32.toNatClampNeg p1))), .int t_cause, .int r_1, .int t_computed, .int t_list, .int t_listed, .ref qt_visited, .ref qt_metLow, .ref qt_metHigh])), (qt_visited, .inl (cI, 41, .inl t_visited)), (qn, .inr (1, [.int n_nodes, .int n_links, .int n_room, .int n_alive, .int n_inMap, .ref qn_low, .ref qn_high, .ref qn_length])), (qn_low, .inl (cI, 18, .inl n_low)), (qn_high, .inl (cI, 18, .inl n_high)), (qn_length, .inl (cI, 18, .inl n_length))] := hD
  refine lv_aload_n hx hb dX0_goAlong_34 rfl (lv_at hl 0 rfl) ?_
  refine lv_dup hx hb dX0_goAlong_35 rfl ?_
  refine va_get (D := D) (ci := 0) (v := .int t_steps) (C := RX0) (T := TX0) (N := 12) hx hb hu k_iX0 hown hK hP 0 rfl rfl 2 (by decide) (hu _ u_146) (fun _ h9 => h9) rfl dX0_goAlong_36 ?_
  refine lv_iconst (v := (1 : Int32)) hx hb dX0_goAlong_39 (by decide) ?_
  refine lv_iadd hx hb dX0_goAlong_40 ?_
  refine va_put (D := D) (ci := 0) (v := .int (t_steps + (1 : Int32))) (ty := .int) (C := RX0) (T := TX0) (N := 12) hx hb hu k_iX0 tyX0 tyX0_ok nmX0 hown hK hP hD hS 0 rfl rfl 2 (by decide) (hu _ u_146) (fun _ h9 => h9) rfl (by decide +kernel) rfl rfl (Nat.le_of_ble_eq_true rfl) dX0_goAlong_41 (fun H locs hP hD hS => ?_)
  have hP : va_P D vwCl [(qt, .inr (0, [.ref qn, .ref qy, .int (t_steps + (1 : Int32)), .int (t_cost + (n_length (Int32.toNatClampNeg p1))), .int t_cause, .int r_1, .int t_computed, .int t_list, .int t_listed, .ref qt_visited, .ref qt_metLow, .ref qt_metHigh])), (qt_visited, .inl (cI, 41, .inl t_visited)), (qn, .inr (1, [.int n_nodes, .int n_links, .int n_room, .int n_alive, .int n_inMap, .ref qn_low, .ref qn_high, .ref qn_length])), (qn_low, .inl (cI, 18, .inl n_low)), (qn_high, .inl (cI, 18, .inl n_high)), (qn_length, .inl (cI, 18, .inl n_length))] H := hP
  have hD : va_D A [(qt, .inr (0, [.ref qn, .ref qy, .int (t_steps + (1 : Int32)), .int (t_cost + (n_length (Int32.toNatClampNeg p1))), .int t_cause, .int r_1, .int t_computed, .int t_list, .int t_listed, .ref qt_visited, .ref qt_metLow, .ref qt_metHigh])), (qt_visited, .inl (cI, 41, .inl t_visited)), (qn, .inr (1, [.int n_nodes, .int n_links, .int n_room, .int n_alive, .int n_inMap, .ref qn_low, .ref qn_high, .ref qn_length])), (qn_low, .inl (cI, 18, .inl n_low)), (qn_high, .inl (cI, 18, .inl n_high)), (qn_length, .inl (cI, 18, .inl n_length))] := hD
  refine lv_aload_n hx hb dX0_goAlong_44 rfl (lv_at hl 0 rfl) ?_
  refine va_get (D := D) (ci := 0) (v := .ref qt_visited) (C := RX0) (T := TX0) (N := 12) hx hb hu k_iX0 hown hK hP 0 rfl rfl 9 (by decide) (hu _ u_163) (fun _ h9 => h9) rfl dX0_goAlong_45 ?_
  refine lv_aload_n hx hb dX0_goAlong_48 rfl (lv_at hl 0 rfl) ?_
  refine va_get (D := D) (ci := 0) (v := .int (t_steps + (1 : Int32))) (C := RX0) (T := TX0) (N := 12) hx hb hu k_iX0 hown hK hP 0 rfl rfl 2 (by decide) (hu _ u_146) (fun _ h9 => h9) rfl dX0_goAlong_49 ?_
  refine lv_aload_n hx hb dX0_goAlong_52 rfl (lv_at hl 0 rfl) ?_
  refine va_get (D := D) (ci := 0) (v := .int r_1) (C := RX0) (T := TX0) (N := 12) hx hb hu k_iX0 hown hK hP 0 rfl rfl 5 (by decide) (hu _ u_154) (fun _ h9 => h9) rfl dX0_goAlong_53 ?_
  obtain ⟨hin_4, h⟩ := ob_if h
  have hin_4 := inb_in hin_4
  refine va_iast (D := D) hx hb hK hP hD hS 1 0 rfl rfl hin_4 dX0_goAlong_56 (fun H locs hP hD hS => ?_)
  have hP : va_P D vwCl [(qt, .inr (0, [.ref qn, .ref qy, .int (t_steps + (1 : Int32)), .int (t_cost + (n_length (Int32.toNatClampNeg p1))), .int t_cause, .int r_1, .int t_computed, .int t_list, .int t_listed, .ref qt_visited, .ref qt_metLow, .ref qt_metHigh])), (qt_visited, .inl (cI, 41, .inl (upd t_visited (Int32.toNatClampNeg (t_steps + (1 : Int32))) r_1))), (qn, .inr (1, [.int n_nodes, .int n_links, .int n_room, .int n_alive, .int n_inMap, .ref qn_low, .ref qn_high, .ref qn_length])), (qn_low, .inl (cI, 18, .inl n_low)), (qn_high, .inl (cI, 18, .inl n_high)), (qn_length, .inl (cI, 18, .inl n_length))] H := hP
  have hD : va_D A [(qt, .inr (0, [.ref qn, .ref qy, .int (t_steps + (1 : Int32)), .int (t_cost + (n_length (Int32.toNatClampNeg p1))), .int t_cause, .int r_1, .int t_computed, .int t_list, .int t_listed, .ref qt_visited, .ref qt_metLow, .ref qt_metHigh])), (qt_visited, .inl (cI, 41, .inl (upd t_visited (Int32.toNatClampNeg (t_steps + (1 : Int32))) r_1))), (qn, .inr (1, [.int n_nodes, .int n_links, .int n_room, .int n_alive, .int n_inMap, .ref qn_low, .ref qn_high, .ref qn_length])), (qn_low, .inl (cI, 18, .inl n_low)), (qn_high, .inl (cI, 18, .inl n_high)), (qn_length, .inl (cI, 18, .inl n_length))] := hD
  have hq := Option.some.inj h
  clear h
  obtain ⟨e0, hq0⟩ := Prod.mk.inj hq
  clear hq
  obtain ⟨e1, hq1⟩ := Prod.mk.inj hq0
  clear hq0
  obtain ⟨e2, hq2⟩ := Prod.mk.inj hq1
  clear hq1
  subst e0
  subst e1
  subst e2
  subst hq2
  exact k_retV hx hb hr hlocks hP hD hS dX0_goAlong_57
def f_X0_tryLink (p1 : Int32) (p2 : Int32) (t_steps : Int32) (t_cost : Int32) (t_cause : Int32) (t_place : Int32) (t_list : Int32) (t_listed : Int32) (t_visited : (Nat → Int32)) (t_metLow : (Nat → Int32)) (t_metHigh : (Nat → Int32)) (n_alive : Int32) (n_low : (Nat → Int32)) (n_high : (Nat → Int32)) (n_length : (Nat → Int32)) : Option (Int32 × Int32 × Int32 × Int32 × Int32 × Int32 × (Nat → Int32) × (Nat → Int32) × (Nat → Int32)) :=
  if p1 = (-1 : Int32) then
    some (t_steps, t_cost, (1 : Int32), t_place, t_list, t_listed, t_visited, t_metLow, t_metHigh)
  else
    if (f_X5_bit n_alive p1) = (0 : Int32) then
      (f_X0_meetDead p1 p2 t_cause t_list t_listed t_metLow t_metHigh n_low n_high).bind fun ⟨o_9, o_10, o_11, o_12, o_13⟩ =>
      some (t_steps, t_cost, o_9, t_place, o_10, o_11, t_visited, o_12, o_13)
    else
      if t_steps < (40 : Int32) then
        (f_X0_goAlong p1 t_steps t_cost t_place t_visited n_low n_high n_length).bind fun ⟨o_4, o_5, o_6, o_7⟩ =>
        some (o_4, o_5, t_cause, o_6, t_list, t_listed, o_7, t_metLow, t_metHigh)
      else
        some (t_steps, t_cost, (3 : Int32), t_place, t_list, t_listed, t_visited, t_metLow, t_metHigh)
set_option maxHeartbeats 4000000 in
set_option maxRecDepth 100000 in
theorem c_X0_tryLink (l : Launch) (D : va_G) (cI cZ cN : ClassId) (aK aV : Nat → Nat)  (qt : Nat) (qt_visited : Nat) (qt_metLow : Nat) (qt_metHigh : Nat) (qy : Nat) (qn : Nat) (qn_low : Nat) (qn_high : Nat) (qn_length : Nat) (t_steps : Int32) (t_cost : Int32) (t_cause : Int32) (t_place : Int32) (t_computed : Int32) (t_list : Int32) (t_listed : Int32) (t_visited : (Nat → Int32)) (t_metLow : (Nat → Int32)) (t_metHigh : (Nat → Int32)) (n_nodes : Int32) (n_links : Int32) (n_room : Int32) (n_alive : Int32) (n_inMap : Int32) (n_low : (Nat → Int32)) (n_high : (Nat → Int32)) (n_length : (Nat → Int32)) (p1 p2 : Int32) (z_t_steps : Int32) (z_t_cost : Int32) (z_t_cause : Int32) (z_t_place : Int32) (z_t_list : Int32) (z_t_listed : Int32) (z_t_visited : (Nat → Int32)) (z_t_metLow : (Nat → Int32)) (z_t_metHigh : (Nat → Int32)) (h : f_X0_tryLink p1 p2 t_steps t_cost t_cause t_place t_list t_listed t_visited t_metLow t_metHigh n_alive n_low n_high n_length = some (z_t_steps, z_t_cost, z_t_cause, z_t_place, z_t_list, z_t_listed, z_t_visited, z_t_metLow, z_t_metHigh)) : CtV l D cI cZ cN aK aV yX0_tryLink (k_W yX0_tryLink cX0_tryLink 3 none) { frames := 2, cells := 0, slots := 0, locals := 44 } [.ref qt, .int p1, .int p2] [(qt, .inr (0, [.ref qn, .ref qy, .int t_steps, .int t_cost, .int t_cause, .int t_place, .int t_computed, .int t_list, .int t_listed, .ref qt_visited, .ref qt_metLow, .ref qt_metHigh])), (qt_visited, .inl (cI, 41, .inl t_visited)), (qt_metLow, .inl (cI, 18, .inl t_metLow)), (qt_metHigh, .inl (cI, 18, .inl t_metHigh)), (qn, .inr (1, [.int n_nodes, .int n_links, .int n_room, .int n_alive, .int n_inMap, .ref qn_low, .ref qn_high, .ref qn_length])), (qn_low, .inl (cI, 18, .inl n_low)), (qn_high, .inl (cI, 18, .inl n_high)), (qn_length, .inl (cI, 18, .inl n_length))] [(qt, .inr (0, [.ref qn, .ref qy, .int z_t_steps, .int z_t_cost, .int z_t_cause, .int z_t_place, .int t_computed, .int z_t_list, .int z_t_listed, .ref qt_visited, .ref qt_metLow, .ref qt_metHigh])), (qt_visited, .inl (cI, 41, .inl z_t_visited)), (qt_metLow, .inl (cI, 18, .inl z_t_metLow)), (qt_metHigh, .inl (cI, 18, .inl z_t_metHigh)), (qn, .inr (1, [.int n_nodes, .int n_links, .int n_room, .int n_alive, .int n_inMap, .ref qn_low, .ref qn_high, .ref qn_length])), (qn_low, .inl (cI, 18, .inl n_low)), (qn_high, .inl (cI, 18, .inl n_high)), (qn_length, .inl (cI, 18, .inl n_length))] := by
  refine k_startV (by decide) (Nat.le_of_ble_eq_true rfl) ?_
  intro p e s m below meth c A ls hx hb hr hml hown hts hlocks hT hZ hA hP hD hS hl
  have hK := hT.1
  have hu : ∀ w ∈ k_U, w.before ([.ref qt, .int p1, .int p2] : List Value).toArray s = true := fun w h => hts w (List.mem_cons_of_mem _ h)
  have hown : s.vm.findClass RX0 = some m.cls := hown
  have hl : lv_has ls 3 [(0, .ref qt), (1, .int p1), (2, .int p2)] := hl
  unfold f_X0_tryLink at h
  refine lv_iload_n hx hb dX0_tryLink_0 rfl (lv_at hl 1 rfl) ?_
  refine lv_iconst (v := (-1 : Int32)) hx hb dX0_tryLink_1 (by decide) ?_
  refine lv_icmp_ne (tgt := 13) hx hb dX0_tryLink_2 (by decide) (fun cc_1 => ?_) (fun cc_1 => ?_)
  · have h := (if_neg cc_1).symm.trans h
    refine lv_aload_n hx hb dX0_tryLink_13 rfl (lv_at hl 0 rfl) ?_
    refine va_get (D := D) (ci := 0) (v := .ref qn) (C := RX0) (T := TX0) (N := 12) hx hb hu k_iX0 hown hK hP 0 rfl rfl 0 (by decide) (hu _ u_144) (fun _ h9 => h9) rfl dX0_tryLink_14 ?_
    refine va_get (D := D) (ci := 1) (v := .int n_alive) (C := RX1) (T := TX1) (N := 8) hx hb hu k_iX1 hown hK hP 4 rfl rfl 3 (by decide) (hu _ u_84) (fun _ h9 => h9) rfl dX0_tryLink_17 ?_
    refine lv_iload_n hx hb dX0_tryLink_20 rfl (lv_at hl 1 rfl) ?_
    refine k_call0N (As := [.int n_alive, .int p1]) (rest := []) ⟨hx, hb, hml, hown, hts⟩ hT hZ hA hP hD hS (c_X5_bit l D cI cZ cN aK aV n_alive p1 _ rfl) ⟨va_cnB 2 hts (k_good u_393) rfl rfl rfl hT.2.2.2.2.2.2.2.1 (hu _ u_45) (by decide +kernel) ⟨Nat.le_of_ble_eq_true rfl, Nat.le_of_ble_eq_true rfl⟩, hu _ u_392, trivial⟩ rfl hl.1 rfl (Nat.le_of_ble_eq_true rfl) dX0_tryLink_21 (fun H locs hP hD hS => ?_)
    refine lv_if_ne (tgt := 36) hx hb dX0_tryLink_24 (by decide) (fun cc_2 => ?_) (fun cc_2 => ?_)
    · have h := (if_neg cc_2).symm.trans h
      refine lv_aload_n hx hb dX0_tryLink_36 rfl (lv_at hl 0 rfl) ?_
      refine va_get (D := D) (ci := 0) (v := .int t_steps) (C := RX0) (T := TX0) (N := 12) hx hb hu k_iX0 hown hK hP 0 rfl rfl 2 (by decide) (hu _ u_146) (fun _ h9 => h9) rfl dX0_tryLink_37 ?_
      refine lv_bipush (v := (40 : Int32)) hx hb dX0_tryLink_40 (by decide) ?_
      refine lv_icmp_lt (tgt := 53) hx hb dX0_tryLink_42 (by decide) (fun cc_3 => ?_) (fun cc_3 => ?_)
      · have h := (if_pos cc_3).symm.trans h
        refine lv_aload_n hx hb dX0_tryLink_53 rfl (lv_at hl 0 rfl) ?_
        refine lv_iload_n hx hb dX0_tryLink_54 rfl (lv_at hl 1 rfl) ?_
        obtain ⟨⟨o_4, o_5, o_6, o_7⟩, hc_8, h⟩ := ob_bind h
        dsimp only at h
        refine k_callVV (qb := 0) [0, 1, 4, 5, 6, 7] [0, 1] [0, 1] [(qt, .inr (0, [.ref qn, .ref qy, .int o_4, .int o_5, .int t_cause, .int o_6, .int t_computed, .int t_list, .int t_listed, .ref qt_visited, .ref qt_metLow, .ref qt_metHigh])), (qt_visited, .inl (cI, 41, .inl o_7))] (As := [.int p1]) (rest := []) ⟨hx, hb, hml, hown, hts⟩ hT hZ hA hP hD hS (c_X0_goAlong l D cI cZ cN aK aV qt qt_visited qt_metLow qt_metHigh qy qn qn_low qn_high qn_length t_steps t_cost t_cause t_place t_computed t_list t_listed t_visited n_nodes n_links n_room n_alive n_inMap n_low n_high n_length p1 o_4 o_5 o_6 o_7 hc_8) ⟨callB_of 1 hts (k_good u_530) rfl rfl rfl (hu _ u_48) (hu _ u_527) (by decide +kernel) ⟨Nat.le_of_ble_eq_true rfl, Nat.le_of_ble_eq_true rfl⟩, hu _ u_529, hu _ u_7⟩ rfl rfl rfl (by decide) (by decide) (by decide) rfl rfl rfl rfl hl.1 rfl (Nat.le_of_ble_eq_true rfl) dX0_tryLink_55 (fun H locs hP hD hS => ?_)
        have hP : va_P D vwCl [(qt, .inr (0, [.ref qn, .ref qy, .int o_4, .int o_5, .int t_cause, .int o_6, .int t_computed, .int t_list, .int t_listed, .ref qt_visited, .ref qt_metLow, .ref qt_metHigh])), (qt_visited, .inl (cI, 41, .inl o_7)), (qt_metLow, .inl (cI, 18, .inl t_metLow)), (qt_metHigh, .inl (cI, 18, .inl t_metHigh)), (qn, .inr (1, [.int n_nodes, .int n_links, .int n_room, .int n_alive, .int n_inMap, .ref qn_low, .ref qn_high, .ref qn_length])), (qn_low, .inl (cI, 18, .inl n_low)), (qn_high, .inl (cI, 18, .inl n_high)), (qn_length, .inl (cI, 18, .inl n_length))] H := hP
        have hD : va_D A [(qt, .inr (0, [.ref qn, .ref qy, .int o_4, .int o_5, .int t_cause, .int o_6, .int t_computed, .int t_list, .int t_listed, .ref qt_visited, .ref qt_metLow, .ref qt_metHigh])), (qt_visited, .inl (cI, 41, .inl o_7)), (qt_metLow, .inl (cI, 18, .inl t_metLow)), (qt_metHigh, .inl (cI, 18, .inl t_metHigh)), (qn, .inr (1, [.int n_nodes, .int n_links, .int n_room, .int n_alive, .int n_inMap, .ref qn_low, .ref qn_high, .ref qn_length])), (qn_low, .inl (cI, 18, .inl n_low)), (qn_high, .inl (cI, 18, .inl n_high)), (qn_length, .inl (cI, 18, .inl n_length))] := hD
        have hq := Option.some.inj h
        clear h
        obtain ⟨e0, hq0⟩ := Prod.mk.inj hq
        clear hq
        obtain ⟨e1, hq1⟩ := Prod.mk.inj hq0
        clear hq0
        obtain ⟨e2, hq2⟩ := Prod.mk.inj hq1
        clear hq1
        obtain ⟨e3, hq3⟩ := Prod.mk.inj hq2
        clear hq2
        obtain ⟨e4, hq4⟩ := Prod.mk.inj hq3
        clear hq3
        obtain ⟨e5, hq5⟩ := Prod.mk.inj hq4
        clear hq4
        obtain ⟨e6, hq6⟩ := Prod.mk.inj hq5
        clear hq5
        obtain ⟨e7, hq7⟩ := Prod.mk.inj hq6
        clear hq6
        subst e0
        subst e1
        subst e2
        subst e3
        subst e4
        subst e5
        subst e6
        subst e7
        subst hq7
        exact k_retV hx hb hr hlocks hP hD hS dX0_tryLink_58
      · have h := (if_neg cc_3).symm.trans h
        refine lv_aload_n hx hb dX0_tryLink_45 rfl (lv_at hl 0 rfl) ?_
        refine lv_iconst (v := (3 : Int32)) hx hb dX0_tryLink_46 (by decide) ?_
        refine va_put (D := D) (ci := 0) (v := .int (3 : Int32)) (ty := .int) (C := RX0) (T := TX0) (N := 12) hx hb hu k_iX0 tyX0 tyX0_ok nmX0 hown hK hP hD hS 0 rfl rfl 4 (by decide) (hu _ u_152) (fun _ h9 => h9) rfl (by decide +kernel) rfl rfl (Nat.le_of_ble_eq_true rfl) dX0_tryLink_47 (fun H locs hP hD hS => ?_)
        have hP : va_P D vwCl [(qt, .inr (0, [.ref qn, .ref qy, .int t_steps, .int t_cost, .int (3 : Int32), .int t_place, .int t_computed, .int t_list, .int t_listed, .ref qt_visited, .ref qt_metLow, .ref qt_metHigh])), (qt_visited, .inl (cI, 41, .inl t_visited)), (qt_metLow, .inl (cI, 18, .inl t_metLow)), (qt_metHigh, .inl (cI, 18, .inl t_metHigh)), (qn, .inr (1, [.int n_nodes, .int n_links, .int n_room, .int n_alive, .int n_inMap, .ref qn_low, .ref qn_high, .ref qn_length])), (qn_low, .inl (cI, 18, .inl n_low)), (qn_high, .inl (cI, 18, .inl n_high)), (qn_length, .inl (cI, 18, .inl n_length))] H := hP
        have hD : va_D A [(qt, .inr (0, [.ref qn, .ref qy, .int t_steps, .int t_cost, .int (3 : Int32), .int t_place, .int t_computed, .int t_list, .int t_listed, .ref qt_visited, .ref qt_metLow, .ref qt_metHigh])), (qt_visited, .inl (cI, 41, .inl t_visited)), (qt_metLow, .inl (cI, 18, .inl t_metLow)), (qt_metHigh, .inl (cI, 18, .inl t_metHigh)), (qn, .inr (1, [.int n_nodes, .int n_links, .int n_room, .int n_alive, .int n_inMap, .ref qn_low, .ref qn_high, .ref qn_length])), (qn_low, .inl (cI, 18, .inl n_low)), (qn_high, .inl (cI, 18, .inl n_high)), (qn_length, .inl (cI, 18, .inl n_length))] := hD
        refine lv_goto (tgt := 58) hx hb dX0_tryLink_50 (by decide) ?_
        have hq := Option.some.inj h
        clear h
        obtain ⟨e0, hq0⟩ := Prod.mk.inj hq
        clear hq
        obtain ⟨e1, hq1⟩ := Prod.mk.inj hq0
        clear hq0
        obtain ⟨e2, hq2⟩ := Prod.mk.inj hq1
        clear hq1
        obtain ⟨e3, hq3⟩ := Prod.mk.inj hq2
        clear hq2
        obtain ⟨e4, hq4⟩ := Prod.mk.inj hq3
        clear hq3
        obtain ⟨e5, hq5⟩ := Prod.mk.inj hq4
        clear hq4
        obtain ⟨e6, hq6⟩ := Prod.mk.inj hq5
        clear hq5
        obtain ⟨e7, hq7⟩ := Prod.mk.inj hq6
        clear hq6
        subst e0
        subst e1
        subst e2
        subst e3
        subst e4
        subst e5
        subst e6
        subst e7
        subst hq7
        exact k_retV hx hb hr hlocks hP hD hS dX0_tryLink_58
    · have h := (if_pos cc_2).symm.trans h
      refine lv_aload_n hx hb dX0_tryLink_27 rfl (lv_at hl 0 rfl) ?_
      refine lv_iload_n hx hb dX0_tryLink_28 rfl (lv_at hl 1 rfl) ?_
      refine lv_iload_n hx hb dX0_tryLink_29 rfl (lv_at hl 2 rfl) ?_
      obtain ⟨⟨o_9, o_10, o_11, o_12, o_13⟩, hc_14, h⟩ := ob_bind h
      dsimp only at h
      refine k_callVV (qb := 0) [0, 2, 3, 4, 5, 6] [0, 1, 2] [0, 2, 3] [(qt, .inr (0, [.ref qn, .ref qy, .int t_steps, .int t_cost, .int o_9, .int t_place, .int t_computed, .int o_10, .int o_11, .ref qt_visited, .ref qt_metLow, .ref qt_metHigh])), (qt_metLow, .inl (cI, 18, .inl o_12)), (qt_metHigh, .inl (cI, 18, .inl o_13))] (As := [.int p1, .int p2]) (rest := []) ⟨hx, hb, hml, hown, hts⟩ hT hZ hA hP hD hS (c_X0_meetDead l D cI cZ cN aK aV qt qt_visited qt_metLow qt_metHigh qy qn qn_low qn_high qn_length t_steps t_cost t_cause t_place t_computed t_list t_listed t_metLow t_metHigh n_nodes n_links n_room n_alive n_inMap n_low n_high p1 p2 o_9 o_10 o_11 o_12 o_13 hc_14) ⟨callB_of 2 hts (k_good u_525) rfl rfl rfl (hu _ u_48) (hu _ u_522) (by decide +kernel) ⟨Nat.le_of_ble_eq_true rfl, Nat.le_of_ble_eq_true rfl⟩, hu _ u_524, hu _ u_6⟩ rfl rfl rfl (by decide) (by decide) (by decide) rfl rfl rfl rfl hl.1 rfl (Nat.le_of_ble_eq_true rfl) dX0_tryLink_30 (fun H locs hP hD hS => ?_)
      have hP : va_P D vwCl [(qt, .inr (0, [.ref qn, .ref qy, .int t_steps, .int t_cost, .int o_9, .int t_place, .int t_computed, .int o_10, .int o_11, .ref qt_visited, .ref qt_metLow, .ref qt_metHigh])), (qt_visited, .inl (cI, 41, .inl t_visited)), (qt_metLow, .inl (cI, 18, .inl o_12)), (qt_metHigh, .inl (cI, 18, .inl o_13)), (qn, .inr (1, [.int n_nodes, .int n_links, .int n_room, .int n_alive, .int n_inMap, .ref qn_low, .ref qn_high, .ref qn_length])), (qn_low, .inl (cI, 18, .inl n_low)), (qn_high, .inl (cI, 18, .inl n_high)), (qn_length, .inl (cI, 18, .inl n_length))] H := hP
      have hD : va_D A [(qt, .inr (0, [.ref qn, .ref qy, .int t_steps, .int t_cost, .int o_9, .int t_place, .int t_computed, .int o_10, .int o_11, .ref qt_visited, .ref qt_metLow, .ref qt_metHigh])), (qt_visited, .inl (cI, 41, .inl t_visited)), (qt_metLow, .inl (cI, 18, .inl o_12)), (qt_metHigh, .inl (cI, 18, .inl o_13)), (qn, .inr (1, [.int n_nodes, .int n_links, .int n_room, .int n_alive, .int n_inMap, .ref qn_low, .ref qn_high, .ref qn_length])), (qn_low, .inl (cI, 18, .inl n_low)), (qn_high, .inl (cI, 18, .inl n_high)), (qn_length, .inl (cI, 18, .inl n_length))] := hD
      refine lv_goto (tgt := 58) hx hb dX0_tryLink_33 (by decide) ?_
      have hq := Option.some.inj h
      clear h
      obtain ⟨e0, hq0⟩ := Prod.mk.inj hq
      clear hq
      obtain ⟨e1, hq1⟩ := Prod.mk.inj hq0
      clear hq0
      obtain ⟨e2, hq2⟩ := Prod.mk.inj hq1
      clear hq1
      obtain ⟨e3, hq3⟩ := Prod.mk.inj hq2
      clear hq2
      obtain ⟨e4, hq4⟩ := Prod.mk.inj hq3
      clear hq3
      obtain ⟨e5, hq5⟩ := Prod.mk.inj hq4
      clear hq4
      obtain ⟨e6, hq6⟩ := Prod.mk.inj hq5
      clear hq5
      obtain ⟨e7, hq7⟩ := Prod.mk.inj hq6
      clear hq6
      subst e0
      subst e1
      subst e2
      subst e3
      subst e4
      subst e5
      subst e6
      subst e7
      subst hq7
      exact k_retV hx hb hr hlocks hP hD hS dX0_tryLink_58
  · have h := (if_pos cc_1).symm.trans h
    refine lv_aload_n hx hb dX0_tryLink_5 rfl (lv_at hl 0 rfl) ?_
    refine lv_iconst (v := (1 : Int32)) hx hb dX0_tryLink_6 (by decide) ?_
    refine va_put (D := D) (ci := 0) (v := .int (1 : Int32)) (ty := .int) (C := RX0) (T := TX0) (N := 12) hx hb hu k_iX0 tyX0 tyX0_ok nmX0 hown hK hP hD hS 0 rfl rfl 4 (by decide) (hu _ u_152) (fun _ h9 => h9) rfl (by decide +kernel) rfl rfl (Nat.le_of_ble_eq_true rfl) dX0_tryLink_7 (fun H locs hP hD hS => ?_)
    have hP : va_P D vwCl [(qt, .inr (0, [.ref qn, .ref qy, .int t_steps, .int t_cost, .int (1 : Int32), .int t_place, .int t_computed, .int t_list, .int t_listed, .ref qt_visited, .ref qt_metLow, .ref qt_metHigh])), (qt_visited, .inl (cI, 41, .inl t_visited)), (qt_metLow, .inl (cI, 18, .inl t_metLow)), (qt_metHigh, .inl (cI, 18, .inl t_metHigh)), (qn, .inr (1, [.int n_nodes, .int n_links, .int n_room, .int n_alive, .int n_inMap, .ref qn_low, .ref qn_high, .ref qn_length])), (qn_low, .inl (cI, 18, .inl n_low)), (qn_high, .inl (cI, 18, .inl n_high)), (qn_length, .inl (cI, 18, .inl n_length))] H := hP
    have hD : va_D A [(qt, .inr (0, [.ref qn, .ref qy, .int t_steps, .int t_cost, .int (1 : Int32), .int t_place, .int t_computed, .int t_list, .int t_listed, .ref qt_visited, .ref qt_metLow, .ref qt_metHigh])), (qt_visited, .inl (cI, 41, .inl t_visited)), (qt_metLow, .inl (cI, 18, .inl t_metLow)), (qt_metHigh, .inl (cI, 18, .inl t_metHigh)), (qn, .inr (1, [.int n_nodes, .int n_links, .int n_room, .int n_alive, .int n_inMap, .ref qn_low, .ref qn_high, .ref qn_length])), (qn_low, .inl (cI, 18, .inl n_low)), (qn_high, .inl (cI, 18, .inl n_high)), (qn_length, .inl (cI, 18, .inl n_length))] := hD
    refine lv_goto (tgt := 58) hx hb dX0_tryLink_10 (by decide) ?_
    have hq := Option.some.inj h
    clear h
    obtain ⟨e0, hq0⟩ := Prod.mk.inj hq
    clear hq
    obtain ⟨e1, hq1⟩ := Prod.mk.inj hq0
    clear hq0
    obtain ⟨e2, hq2⟩ := Prod.mk.inj hq1
    clear hq1
    obtain ⟨e3, hq3⟩ := Prod.mk.inj hq2
    clear hq2
    obtain ⟨e4, hq4⟩ := Prod.mk.inj hq3
    clear hq3
    obtain ⟨e5, hq5⟩ := Prod.mk.inj hq4
    clear hq4
    obtain ⟨e6, hq6⟩ := Prod.mk.inj hq5
    clear hq5
    obtain ⟨e7, hq7⟩ := Prod.mk.inj hq6
    clear hq6
    subst e0
    subst e1
    subst e2
    subst e3
    subst e4
    subst e5
    subst e6
    subst e7
    subst hq7
    exact k_retV hx hb hr hlocks hP hD hS dX0_tryLink_58
def f_X0_travel_b56 (k12 : Int32 → Int32 → Int32 → Int32 → Int32 → Int32 → Int32 → Int32 → Int32 → Int32 → Int32 → Int32 → (Nat → Int32) → (Nat → Int32) → (Nat → Int32) → (Nat → Int32) → Int32 → Int32 → Int32 → Int32 → Int32 → (Nat → Int32) → (Nat → Int32) → (Nat → Int32) → Option (Int32 × Int32 × Int32 × Int32 × Int32 × Int32 × Int32 × (Nat → Int32) × (Nat → Int32) × (Nat → Int32) × (Nat → Int32) × Int32)) (x2 : Int32) (x3 : Int32) (x4 : Int32) (x5 : Int32) (x6 : Int32) (s0 : Int32) (t_steps : Int32) (t_cost : Int32) (t_cause : Int32) (t_place : Int32) (t_computed : Int32) (t_list : Int32) (t_listed : Int32) (t_visited : (Nat → Int32)) (t_metLow : (Nat → Int32)) (t_metHigh : (Nat → Int32)) (y_far : (Nat → Int32)) (y_usable : Int32) (n_nodes : Int32) (n_links : Int32) (n_alive : Int32) (n_inMap : Int32) (n_low : (Nat → Int32)) (n_high : (Nat → Int32)) (n_length : (Nat → Int32)) : Option (Int32 × Int32 × Int32 × Int32 × Int32 × Int32 × Int32 × (Nat → Int32) × (Nat → Int32) × (Nat → Int32) × (Nat → Int32) × Int32) :=
  (f_X4_measure (n_inMap &&& (s0 ^^^ (-1 : Int32))) x2 y_far y_usable n_nodes n_links n_low n_high n_length).bind fun ⟨o_7, o_8⟩ =>
  (f_X4_firstLinkFrom t_place o_7 o_8 n_links n_low n_high n_length).bind fun r_10 =>
  (f_X0_tryLink r_10 x4 t_steps t_cost t_cause t_place t_list t_listed t_visited t_metLow t_metHigh n_alive n_low n_high n_length).bind fun ⟨o_12, o_13, o_14, o_15, o_16, o_17, o_18, o_19, o_20⟩ =>
  k12 x2 x3 x4 x5 (x6 + (1 : Int32)) o_12 o_13 o_14 o_15 (t_computed + (1 : Int32)) o_16 o_17 o_18 o_19 o_20 o_7 o_8 n_nodes n_links n_alive n_inMap n_low n_high n_length
def f_X0_travel_b12  : Nat → Int32 → Int32 → Int32 → Int32 → Int32 → Int32 → Int32 → Int32 → Int32 → Int32 → Int32 → Int32 → (Nat → Int32) → (Nat → Int32) → (Nat → Int32) → (Nat → Int32) → Int32 → Int32 → Int32 → Int32 → Int32 → (Nat → Int32) → (Nat → Int32) → (Nat → Int32) → Option (Int32 × Int32 × Int32 × Int32 × Int32 × Int32 × Int32 × (Nat → Int32) × (Nat → Int32) × (Nat → Int32) × (Nat → Int32) × Int32)
  | 0, _, _, _, _, _, _, _, _, _, _, _, _, _, _, _, _, _, _, _, _, _, _, _, _ => none
  | n + 1, x2, x3, x4, x5, x6, t_steps, t_cost, t_cause, t_place, t_computed, t_list, t_listed, t_visited, t_metLow, t_metHigh, y_far, y_usable, n_nodes, n_links, n_alive, n_inMap, n_low, n_high, n_length =>
    if x5 ≤ x6 then
      some (t_steps, t_cost, t_cause, t_place, t_computed, t_list, t_listed, t_visited, t_metLow, t_metHigh, y_far, y_usable)
    else
      if t_cause = (0 : Int32) then
        if t_place = x2 then
          some (t_steps, t_cost, t_cause, t_place, t_computed, t_list, t_listed, t_visited, t_metLow, t_metHigh, y_far, y_usable)
        else
          if x3 = (0 : Int32) then
            f_X0_travel_b56 (f_X0_travel_b12 n) x2 x3 x4 x5 x6 t_list t_steps t_cost t_cause t_place t_computed t_list t_listed t_visited t_metLow t_metHigh y_far y_usable n_nodes n_links n_alive n_inMap n_low n_high n_length
          else
            (f_X1_deadLinksAt t_place n_links n_alive n_low n_high).bind fun r_5 =>
            f_X0_travel_b56 (f_X0_travel_b12 n) x2 x3 x4 x5 x6 r_5 t_steps t_cost t_cause t_place t_computed t_list t_listed t_visited t_metLow t_metHigh y_far y_usable n_nodes n_links n_alive n_inMap n_low n_high n_length
      else
        some (t_steps, t_cost, t_cause, t_place, t_computed, t_list, t_listed, t_visited, t_metLow, t_metHigh, y_far, y_usable)
def f_X0_travel (p1 : Int32) (p2 : Int32) (p3 : Int32) (p4 : Int32) (t_steps : Int32) (t_cost : Int32) (t_cause : Int32) (t_place : Int32) (t_computed : Int32) (t_list : Int32) (t_listed : Int32) (t_visited : (Nat → Int32)) (t_metLow : (Nat → Int32)) (t_metHigh : (Nat → Int32)) (y_far : (Nat → Int32)) (y_usable : Int32) (n_nodes : Int32) (n_links : Int32) (n_alive : Int32) (n_inMap : Int32) (n_low : (Nat → Int32)) (n_high : (Nat → Int32)) (n_length : (Nat → Int32)) : Option (Int32 × Int32 × Int32 × Int32 × Int32 × Int32 × Int32 × (Nat → Int32) × (Nat → Int32) × (Nat → Int32) × (Nat → Int32) × Int32) :=
  f_X0_travel_b12 1000 p2 p3 p4 (59 : Int32) (0 : Int32) ((f_X0_startAt p1 t_steps t_cost t_cause t_place t_computed t_list t_listed t_visited).1) ((f_X0_startAt p1 t_steps t_cost t_cause t_place t_computed t_list t_listed t_visited).2.1) ((f_X0_startAt p1 t_steps t_cost t_cause t_place t_computed t_list t_listed t_visited).2.2.1) ((f_X0_startAt p1 t_steps t_cost t_cause t_place t_computed t_list t_listed t_visited).2.2.2.1) ((f_X0_startAt p1 t_steps t_cost t_cause t_place t_computed t_list t_listed t_visited).2.2.2.2.1) ((f_X0_startAt p1 t_steps t_cost t_cause t_place t_computed t_list t_listed t_visited).2.2.2.2.2.1) ((f_X0_startAt p1 t_steps t_cost t_cause t_place t_computed t_list t_listed t_visited).2.2.2.2.2.2.1) ((f_X0_startAt p1 t_steps t_cost t_cause t_place t_computed t_list t_listed t_visited).2.2.2.2.2.2.2) t_metLow t_metHigh y_far y_usable n_nodes n_links n_alive n_inMap n_low n_high n_length
set_option maxHeartbeats 4000000 in
set_option maxRecDepth 100000 in
theorem c_X0_travel (l : Launch) (D : va_G) (cI cZ cN : ClassId) (aK aV : Nat → Nat)  (qt : Nat) (qt_visited : Nat) (qt_metLow : Nat) (qt_metHigh : Nat) (qy : Nat) (qy_far : Nat) (qn : Nat) (qn_low : Nat) (qn_high : Nat) (qn_length : Nat) (t_steps : Int32) (t_cost : Int32) (t_cause : Int32) (t_place : Int32) (t_computed : Int32) (t_list : Int32) (t_listed : Int32) (t_visited : (Nat → Int32)) (t_metLow : (Nat → Int32)) (t_metHigh : (Nat → Int32)) (y_far : (Nat → Int32)) (y_usable : Int32) (n_nodes : Int32) (n_links : Int32) (n_room : Int32) (n_alive : Int32) (n_inMap : Int32) (n_low : (Nat → Int32)) (n_high : (Nat → Int32)) (n_length : (Nat → Int32)) (p1 p2 p3 p4 : Int32) (z_t_steps : Int32) (z_t_cost : Int32) (z_t_cause : Int32) (z_t_place : Int32) (z_t_computed : Int32) (z_t_list : Int32) (z_t_listed : Int32) (z_t_visited : (Nat → Int32)) (z_t_metLow : (Nat → Int32)) (z_t_metHigh : (Nat → Int32)) (z_y_far : (Nat → Int32)) (z_y_usable : Int32) (h : f_X0_travel p1 p2 p3 p4 t_steps t_cost t_cause t_place t_computed t_list t_listed t_visited t_metLow t_metHigh y_far y_usable n_nodes n_links n_alive n_inMap n_low n_high n_length = some (z_t_steps, z_t_cost, z_t_cause, z_t_place, z_t_computed, z_t_list, z_t_listed, z_t_visited, z_t_metLow, z_t_metHigh, z_y_far, z_y_usable)) : CtV l D cI cZ cN aK aV yX0_travel (k_W yX0_travel cX0_travel 8 none) { frames := 3, cells := 0, slots := 0, locals := 70 } [.ref qt, .int p1, .int p2, .int p3, .int p4] [(qt, .inr (0, [.ref qn, .ref qy, .int t_steps, .int t_cost, .int t_cause, .int t_place, .int t_computed, .int t_list, .int t_listed, .ref qt_visited, .ref qt_metLow, .ref qt_metHigh])), (qt_visited, .inl (cI, 41, .inl t_visited)), (qt_metLow, .inl (cI, 18, .inl t_metLow)), (qt_metHigh, .inl (cI, 18, .inl t_metHigh)), (qy, .inr (4, [.ref qn, .ref qy_far, .int y_usable])), (qy_far, .inl (cI, 9, .inl y_far)), (qn, .inr (1, [.int n_nodes, .int n_links, .int n_room, .int n_alive, .int n_inMap, .ref qn_low, .ref qn_high, .ref qn_length])), (qn_low, .inl (cI, 18, .inl n_low)), (qn_high, .inl (cI, 18, .inl n_high)), (qn_length, .inl (cI, 18, .inl n_length))] [(qt, .inr (0, [.ref qn, .ref qy, .int z_t_steps, .int z_t_cost, .int z_t_cause, .int z_t_place, .int z_t_computed, .int z_t_list, .int z_t_listed, .ref qt_visited, .ref qt_metLow, .ref qt_metHigh])), (qt_visited, .inl (cI, 41, .inl z_t_visited)), (qt_metLow, .inl (cI, 18, .inl z_t_metLow)), (qt_metHigh, .inl (cI, 18, .inl z_t_metHigh)), (qy, .inr (4, [.ref qn, .ref qy_far, .int z_y_usable])), (qy_far, .inl (cI, 9, .inl z_y_far)), (qn, .inr (1, [.int n_nodes, .int n_links, .int n_room, .int n_alive, .int n_inMap, .ref qn_low, .ref qn_high, .ref qn_length])), (qn_low, .inl (cI, 18, .inl n_low)), (qn_high, .inl (cI, 18, .inl n_high)), (qn_length, .inl (cI, 18, .inl n_length))] := by
  refine k_startV (by decide) (Nat.le_of_ble_eq_true rfl) ?_
  intro p e s m below meth c A ls hx hb hr hml hown hts hlocks hT hZ hA hP hD hS hl
  have hK := hT.1
  have hu : ∀ w ∈ k_U, w.before ([.ref qt, .int p1, .int p2, .int p3, .int p4] : List Value).toArray s = true := fun w h => hts w (List.mem_cons_of_mem _ h)
  have hown : s.vm.findClass RX0 = some m.cls := hown
  have hl : lv_has ls 8 [(0, .ref qt), (1, .int p1), (2, .int p2), (3, .int p3), (4, .int p4)] := hl
  unfold f_X0_travel at h
  have w12 : ∀ (n12 : Nat) (x2 : Int32) (x3 : Int32) (x4 : Int32) (x5 : Int32) (x6 : Int32) (t_steps : Int32) (t_cost : Int32) (t_cause : Int32) (t_place : Int32) (t_computed : Int32) (t_list : Int32) (t_listed : Int32) (t_visited : (Nat → Int32)) (t_metLow : (Nat → Int32)) (t_metHigh : (Nat → Int32)) (y_far : (Nat → Int32)) (y_usable : Int32) (n_nodes : Int32) (n_links : Int32) (n_alive : Int32) (n_inMap : Int32) (n_low : (Nat → Int32)) (n_high : (Nat → Int32)) (n_length : (Nat → Int32)) (H : Heap) (locs : List Loc) (ls : Array Slot), va_P D vwCl [(qt, .inr (0, [.ref qn, .ref qy, .int t_steps, .int t_cost, .int t_cause, .int t_place, .int t_computed, .int t_list, .int t_listed, .ref qt_visited, .ref qt_metLow, .ref qt_metHigh])), (qt_visited, .inl (cI, 41, .inl t_visited)), (qt_metLow, .inl (cI, 18, .inl t_metLow)), (qt_metHigh, .inl (cI, 18, .inl t_metHigh)), (qy, .inr (4, [.ref qn, .ref qy_far, .int y_usable])), (qy_far, .inl (cI, 9, .inl y_far)), (qn, .inr (1, [.int n_nodes, .int n_links, .int n_room, .int n_alive, .int n_inMap, .ref qn_low, .ref qn_high, .ref qn_length])), (qn_low, .inl (cI, 18, .inl n_low)), (qn_high, .inl (cI, 18, .inl n_high)), (qn_length, .inl (cI, 18, .inl n_length))] H → va_D A [(qt, .inr (0, [.ref qn, .ref qy, .int t_steps, .int t_cost, .int t_cause, .int t_place, .int t_computed, .int t_list, .int t_listed, .ref qt_visited, .ref qt_metLow, .ref qt_metHigh])), (qt_visited, .inl (cI, 41, .inl t_visited)), (qt_metLow, .inl (cI, 18, .inl t_metLow)), (qt_metHigh, .inl (cI, 18, .inl t_metHigh)), (qy, .inr (4, [.ref qn, .ref qy_far, .int y_usable])), (qy_far, .inl (cI, 9, .inl y_far)), (qn, .inr (1, [.int n_nodes, .int n_links, .int n_room, .int n_alive, .int n_inMap, .ref qn_low, .ref qn_high, .ref qn_length])), (qn_low, .inl (cI, 18, .inl n_low)), (qn_high, .inl (cI, 18, .inl n_high)), (qn_length, .inl (cI, 18, .inl n_length))] → va_S A s.heap H locs → lv_has ls 8 [(0, .ref qt), (2, .int x2), (3, .int x3), (4, .int x4), (5, .int x5), (6, .int x6)] → f_X0_travel_b12 n12 x2 x3 x4 x5 x6 t_steps t_cost t_cause t_place t_computed t_list t_listed t_visited t_metLow t_metHigh y_far y_usable n_nodes n_links n_alive n_inMap n_low n_high n_length = some (z_t_steps, z_t_cost, z_t_cause, z_t_place, z_t_computed, z_t_list, z_t_listed, z_t_visited, z_t_metLow, z_t_metHigh, z_y_far, z_y_usable) → W p l e { frames := 3, cells := 0, slots := 0, locals := 70 } s m ([.ref qt, .int p1, .int p2, .int p3, .int p4] : List Value).toArray below meth c H locs 0 0 (MQ below (k_QV D [(qt, .inr (0, [.ref qn, .ref qy, .int z_t_steps, .int z_t_cost, .int z_t_cause, .int z_t_place, .int z_t_computed, .int z_t_list, .int z_t_listed, .ref qt_visited, .ref qt_metLow, .ref qt_metHigh])), (qt_visited, .inl (cI, 41, .inl z_t_visited)), (qt_metLow, .inl (cI, 18, .inl z_t_metLow)), (qt_metHigh, .inl (cI, 18, .inl z_t_metHigh)), (qy, .inr (4, [.ref qn, .ref qy_far, .int z_y_usable])), (qy_far, .inl (cI, 9, .inl z_y_far)), (qn, .inr (1, [.int n_nodes, .int n_links, .int n_room, .int n_alive, .int n_inMap, .ref qn_low, .ref qn_high, .ref qn_length])), (qn_low, .inl (cI, 18, .inl n_low)), (qn_high, .inl (cI, 18, .inl n_high)), (qn_length, .inl (cI, 18, .inl n_length))] A) ([.ref qt, .int p1, .int p2, .int p3, .int p4] : List Value).toArray s 0 0 A) (F0 m 12 ls []) := by
    intro n12
    induction n12 with
    | zero =>
      intro x2 x3 x4 x5 x6 t_steps t_cost t_cause t_place t_computed t_list t_listed t_visited t_metLow t_metHigh y_far y_usable n_nodes n_links n_alive n_inMap n_low n_high n_length H locs ls hP hD hS hl h
      rw [f_X0_travel_b12] at h
      cases h
    | succ n12 ih12 =>
      intro x2 x3 x4 x5 x6 t_steps t_cost t_cause t_place t_computed t_list t_listed t_visited t_metLow t_metHigh y_far y_usable n_nodes n_links n_alive n_inMap n_low n_high n_length H locs ls hP hD hS hl h
      rw [f_X0_travel_b12] at h
      have w56 : ∀  (x2 : Int32) (x3 : Int32) (x4 : Int32) (x5 : Int32) (x6 : Int32) (s0 : Int32) (t_steps : Int32) (t_cost : Int32) (t_cause : Int32) (t_place : Int32) (t_computed : Int32) (t_list : Int32) (t_listed : Int32) (t_visited : (Nat → Int32)) (t_metLow : (Nat → Int32)) (t_metHigh : (Nat → Int32)) (y_far : (Nat → Int32)) (y_usable : Int32) (n_nodes : Int32) (n_links : Int32) (n_alive : Int32) (n_inMap : Int32) (n_low : (Nat → Int32)) (n_high : (Nat → Int32)) (n_length : (Nat → Int32)) (H : Heap) (locs : List Loc) (ls : Array Slot), va_P D vwCl [(qt, .inr (0, [.ref qn, .ref qy, .int t_steps, .int t_cost, .int t_cause, .int t_place, .int t_computed, .int t_list, .int t_listed, .ref qt_visited, .ref qt_metLow, .ref qt_metHigh])), (qt_visited, .inl (cI, 41, .inl t_visited)), (qt_metLow, .inl (cI, 18, .inl t_metLow)), (qt_metHigh, .inl (cI, 18, .inl t_metHigh)), (qy, .inr (4, [.ref qn, .ref qy_far, .int y_usable])), (qy_far, .inl (cI, 9, .inl y_far)), (qn, .inr (1, [.int n_nodes, .int n_links, .int n_room, .int n_alive, .int n_inMap, .ref qn_low, .ref qn_high, .ref qn_length])), (qn_low, .inl (cI, 18, .inl n_low)), (qn_high, .inl (cI, 18, .inl n_high)), (qn_length, .inl (cI, 18, .inl n_length))] H → va_D A [(qt, .inr (0, [.ref qn, .ref qy, .int t_steps, .int t_cost, .int t_cause, .int t_place, .int t_computed, .int t_list, .int t_listed, .ref qt_visited, .ref qt_metLow, .ref qt_metHigh])), (qt_visited, .inl (cI, 41, .inl t_visited)), (qt_metLow, .inl (cI, 18, .inl t_metLow)), (qt_metHigh, .inl (cI, 18, .inl t_metHigh)), (qy, .inr (4, [.ref qn, .ref qy_far, .int y_usable])), (qy_far, .inl (cI, 9, .inl y_far)), (qn, .inr (1, [.int n_nodes, .int n_links, .int n_room, .int n_alive, .int n_inMap, .ref qn_low, .ref qn_high, .ref qn_length])), (qn_low, .inl (cI, 18, .inl n_low)), (qn_high, .inl (cI, 18, .inl n_high)), (qn_length, .inl (cI, 18, .inl n_length))] → va_S A s.heap H locs → lv_has ls 8 [(0, .ref qt), (2, .int x2), (3, .int x3), (4, .int x4), (5, .int x5), (6, .int x6)] → f_X0_travel_b56 (f_X0_travel_b12 n12) x2 x3 x4 x5 x6 s0 t_steps t_cost t_cause t_place t_computed t_list t_listed t_visited t_metLow t_metHigh y_far y_usable n_nodes n_links n_alive n_inMap n_low n_high n_length = some (z_t_steps, z_t_cost, z_t_cause, z_t_place, z_t_computed, z_t_list, z_t_listed, z_t_visited, z_t_metLow, z_t_metHigh, z_y_far, z_y_usable) → W p l e { frames := 3, cells := 0, slots := 0, locals := 70 } s m ([.ref qt, .int p1, .int p2, .int p3, .int p4] : List Value).toArray below meth c H locs 0 0 (MQ below (k_QV D [(qt, .inr (0, [.ref qn, .ref qy, .int z_t_steps, .int z_t_cost, .int z_t_cause, .int z_t_place, .int z_t_computed, .int z_t_list, .int z_t_listed, .ref qt_visited, .ref qt_metLow, .ref qt_metHigh])), (qt_visited, .inl (cI, 41, .inl z_t_visited)), (qt_metLow, .inl (cI, 18, .inl z_t_metLow)), (qt_metHigh, .inl (cI, 18, .inl z_t_metHigh)), (qy, .inr (4, [.ref qn, .ref qy_far, .int z_y_usable])), (qy_far, .inl (cI, 9, .inl z_y_far)), (qn, .inr (1, [.int n_nodes, .int n_links, .int n_room, .int n_alive, .int n_inMap, .ref qn_low, .ref qn_high, .ref qn_length])), (qn_low, .inl (cI, 18, .inl n_low)), (qn_high, .inl (cI, 18, .inl n_high)), (qn_length, .inl (cI, 18, .inl n_length))] A) ([.ref qt, .int p1, .int p2, .int p3, .int p4] : List Value).toArray s 0 0 A) (F0 m 56 ls [.int s0]) := by
        intro x2 x3 x4 x5 x6 s0 t_steps t_cost t_cause t_place t_computed t_list t_listed t_visited t_metLow t_metHigh y_far y_usable n_nodes n_links n_alive n_inMap n_low n_high n_length H locs ls hP hD hS hl h
        unfold f_X0_travel_b56 at h
        refine lv_istore (lv' := [(7, .int s0), (0, .ref qt), (2, .int x2), (3, .int x3), (4, .int x4), (5, .int x5), (6, .int x6)]) hx hb dX0_travel_56 hl (by decide) rfl (fun ls hl => ?_)
        refine lv_aload_n hx hb dX0_travel_58 rfl (lv_at hl 1 rfl) ?_
        refine va_get (D := D) (ci := 0) (v := .ref qy) (C := RX0) (T := TX0) (N := 12) hx hb hu k_iX0 hown hK hP 0 rfl rfl 1 (by decide) (hu _ u_145) (fun _ h9 => h9) rfl dX0_travel_59 ?_
        refine lv_aload_n hx hb dX0_travel_62 rfl (lv_at hl 1 rfl) ?_
        refine va_get (D := D) (ci := 0) (v := .ref qn) (C := RX0) (T := TX0) (N := 12) hx hb hu k_iX0 hown hK hP 0 rfl rfl 0 (by decide) (hu _ u_144) (fun _ h9 => h9) rfl dX0_travel_63 ?_
        refine va_get (D := D) (ci := 1) (v := .int n_inMap) (C := RX1) (T := TX1) (N := 8) hx hb hu k_iX1 hown hK hP 6 rfl rfl 4 (by decide) (hu _ u_88) (fun _ h9 => h9) rfl dX0_travel_66 ?_
        refine lv_iload hx hb dX0_travel_69 (lv_at hl 0 rfl) ?_
        refine lv_iconst (v := (-1 : Int32)) hx hb dX0_travel_71 (by decide) ?_
        refine lv_ixor hx hb dX0_travel_72 ?_
        refine lv_iand hx hb dX0_travel_73 ?_
        refine lv_iload_n hx hb dX0_travel_74 rfl (lv_at hl 2 rfl) ?_
        obtain ⟨⟨o_7, o_8⟩, hc_9, h⟩ := ob_bind h
        dsimp only at h
        refine k_callVV (qb := 0) [4, 5, 6, 7, 8, 9] [0, 1] [4, 5] [(qy, .inr (4, [.ref qn, .ref qy_far, .int o_8])), (qy_far, .inl (cI, 9, .inl o_7))] (As := [.int (n_inMap &&& (s0 ^^^ (-1 : Int32))), .int x2]) (rest := []) ⟨hx, hb, hml, hown, hts⟩ hT hZ hA hP hD hS (c_X4_measure l D cI cZ cN aK aV qy qy_far qn qn_low qn_high qn_length y_far y_usable n_nodes n_links n_room n_alive n_inMap n_low n_high n_length (n_inMap &&& (s0 ^^^ (-1 : Int32))) x2 o_7 o_8 hc_9) ⟨callB_of 2 hts (k_good u_460) rfl rfl rfl (hu _ u_47) (hu _ u_515) (by decide +kernel) ⟨Nat.le_of_ble_eq_true rfl, Nat.le_of_ble_eq_true rfl⟩, hu _ u_458, hu _ u_459⟩ rfl rfl rfl (by decide) (by decide) (by decide) rfl rfl rfl rfl hl.1 rfl (Nat.le_of_ble_eq_true rfl) dX0_travel_75 (fun H locs hP hD hS => ?_)
        have hP : va_P D vwCl [(qt, .inr (0, [.ref qn, .ref qy, .int t_steps, .int t_cost, .int t_cause, .int t_place, .int t_computed, .int t_list, .int t_listed, .ref qt_visited, .ref qt_metLow, .ref qt_metHigh])), (qt_visited, .inl (cI, 41, .inl t_visited)), (qt_metLow, .inl (cI, 18, .inl t_metLow)), (qt_metHigh, .inl (cI, 18, .inl t_metHigh)), (qy, .inr (4, [.ref qn, .ref qy_far, .int o_8])), (qy_far, .inl (cI, 9, .inl o_7)), (qn, .inr (1, [.int n_nodes, .int n_links, .int n_room, .int n_alive, .int n_inMap, .ref qn_low, .ref qn_high, .ref qn_length])), (qn_low, .inl (cI, 18, .inl n_low)), (qn_high, .inl (cI, 18, .inl n_high)), (qn_length, .inl (cI, 18, .inl n_length))] H := hP
        have hD : va_D A [(qt, .inr (0, [.ref qn, .ref qy, .int t_steps, .int t_cost, .int t_cause, .int t_place, .int t_computed, .int t_list, .int t_listed, .ref qt_visited, .ref qt_metLow, .ref qt_metHigh])), (qt_visited, .inl (cI, 41, .inl t_visited)), (qt_metLow, .inl (cI, 18, .inl t_metLow)), (qt_metHigh, .inl (cI, 18, .inl t_metHigh)), (qy, .inr (4, [.ref qn, .ref qy_far, .int o_8])), (qy_far, .inl (cI, 9, .inl o_7)), (qn, .inr (1, [.int n_nodes, .int n_links, .int n_room, .int n_alive, .int n_inMap, .ref qn_low, .ref qn_high, .ref qn_length])), (qn_low, .inl (cI, 18, .inl n_low)), (qn_high, .inl (cI, 18, .inl n_high)), (qn_length, .inl (cI, 18, .inl n_length))] := hD
        refine lv_aload_n hx hb dX0_travel_78 rfl (lv_at hl 1 rfl) ?_
        refine lv_dup hx hb dX0_travel_79 rfl ?_
        refine va_get (D := D) (ci := 0) (v := .int t_computed) (C := RX0) (T := TX0) (N := 12) hx hb hu k_iX0 hown hK hP 0 rfl rfl 6 (by decide) (hu _ u_156) (fun _ h9 => h9) rfl dX0_travel_80 ?_
        refine lv_iconst (v := (1 : Int32)) hx hb dX0_travel_83 (by decide) ?_
        refine lv_iadd hx hb dX0_travel_84 ?_
        refine va_put (D := D) (ci := 0) (v := .int (t_computed + (1 : Int32))) (ty := .int) (C := RX0) (T := TX0) (N := 12) hx hb hu k_iX0 tyX0 tyX0_ok nmX0 hown hK hP hD hS 0 rfl rfl 6 (by decide) (hu _ u_156) (fun _ h9 => h9) rfl (by decide +kernel) rfl rfl (Nat.le_of_ble_eq_true rfl) dX0_travel_85 (fun H locs hP hD hS => ?_)
        have hP : va_P D vwCl [(qt, .inr (0, [.ref qn, .ref qy, .int t_steps, .int t_cost, .int t_cause, .int t_place, .int (t_computed + (1 : Int32)), .int t_list, .int t_listed, .ref qt_visited, .ref qt_metLow, .ref qt_metHigh])), (qt_visited, .inl (cI, 41, .inl t_visited)), (qt_metLow, .inl (cI, 18, .inl t_metLow)), (qt_metHigh, .inl (cI, 18, .inl t_metHigh)), (qy, .inr (4, [.ref qn, .ref qy_far, .int o_8])), (qy_far, .inl (cI, 9, .inl o_7)), (qn, .inr (1, [.int n_nodes, .int n_links, .int n_room, .int n_alive, .int n_inMap, .ref qn_low, .ref qn_high, .ref qn_length])), (qn_low, .inl (cI, 18, .inl n_low)), (qn_high, .inl (cI, 18, .inl n_high)), (qn_length, .inl (cI, 18, .inl n_length))] H := hP
        have hD : va_D A [(qt, .inr (0, [.ref qn, .ref qy, .int t_steps, .int t_cost, .int t_cause, .int t_place, .int (t_computed + (1 : Int32)), .int t_list, .int t_listed, .ref qt_visited, .ref qt_metLow, .ref qt_metHigh])), (qt_visited, .inl (cI, 41, .inl t_visited)), (qt_metLow, .inl (cI, 18, .inl t_metLow)), (qt_metHigh, .inl (cI, 18, .inl t_metHigh)), (qy, .inr (4, [.ref qn, .ref qy_far, .int o_8])), (qy_far, .inl (cI, 9, .inl o_7)), (qn, .inr (1, [.int n_nodes, .int n_links, .int n_room, .int n_alive, .int n_inMap, .ref qn_low, .ref qn_high, .ref qn_length])), (qn_low, .inl (cI, 18, .inl n_low)), (qn_high, .inl (cI, 18, .inl n_high)), (qn_length, .inl (cI, 18, .inl n_length))] := hD
        refine lv_aload_n hx hb dX0_travel_88 rfl (lv_at hl 1 rfl) ?_
        refine lv_aload_n hx hb dX0_travel_89 rfl (lv_at hl 1 rfl) ?_
        refine va_get (D := D) (ci := 0) (v := .ref qy) (C := RX0) (T := TX0) (N := 12) hx hb hu k_iX0 hown hK hP 0 rfl rfl 1 (by decide) (hu _ u_145) (fun _ h9 => h9) rfl dX0_travel_90 ?_
        refine lv_aload_n hx hb dX0_travel_93 rfl (lv_at hl 1 rfl) ?_
        refine va_get (D := D) (ci := 0) (v := .int t_place) (C := RX0) (T := TX0) (N := 12) hx hb hu k_iX0 hown hK hP 0 rfl rfl 5 (by decide) (hu _ u_154) (fun _ h9 => h9) rfl dX0_travel_94 ?_
        obtain ⟨r_10, hc_11, h⟩ := ob_bind h
        refine k_callVIr (qb := 0) [4, 5, 6, 7, 8, 9] (As := [.int t_place]) (rest := [.ref qt]) ⟨hx, hb, hml, hown, hts⟩ hT hZ hA hP hD hS (c_X4_firstLinkFrom l D cI cZ cN aK aV qy qy_far qn qn_low qn_high qn_length o_7 o_8 n_nodes n_links n_room n_alive n_inMap n_low n_high n_length t_place r_10 hc_11) ⟨callB_of 1 hts (k_good u_493) rfl rfl rfl (hu _ u_47) (hu _ u_516) (by decide +kernel) ⟨Nat.le_of_ble_eq_true rfl, Nat.le_of_ble_eq_true rfl⟩, hu _ u_491, hu _ u_492⟩ rfl rfl rfl (by decide) rfl hl.1 rfl (Nat.le_of_ble_eq_true rfl) dX0_travel_97 (fun H locs hP hD hS => ?_)
        refine lv_iload hx hb dX0_travel_100 (lv_at hl 4 rfl) ?_
        obtain ⟨⟨o_12, o_13, o_14, o_15, o_16, o_17, o_18, o_19, o_20⟩, hc_21, h⟩ := ob_bind h
        dsimp only at h
        refine k_callVV (qb := 0) [0, 1, 2, 3, 6, 7, 8, 9] [0, 1, 2, 3] [0, 1, 2, 3] [(qt, .inr (0, [.ref qn, .ref qy, .int o_12, .int o_13, .int o_14, .int o_15, .int (t_computed + (1 : Int32)), .int o_16, .int o_17, .ref qt_visited, .ref qt_metLow, .ref qt_metHigh])), (qt_visited, .inl (cI, 41, .inl o_18)), (qt_metLow, .inl (cI, 18, .inl o_19)), (qt_metHigh, .inl (cI, 18, .inl o_20))] (As := [.int r_10, .int x4]) (rest := []) ⟨hx, hb, hml, hown, hts⟩ hT hZ hA hP hD hS (c_X0_tryLink l D cI cZ cN aK aV qt qt_visited qt_metLow qt_metHigh qy qn qn_low qn_high qn_length t_steps t_cost t_cause t_place (t_computed + (1 : Int32)) t_list t_listed t_visited t_metLow t_metHigh n_nodes n_links n_room n_alive n_inMap n_low n_high n_length r_10 x4 o_12 o_13 o_14 o_15 o_16 o_17 o_18 o_19 o_20 hc_21) ⟨callB_of 2 hts (k_good u_520) rfl rfl rfl (hu _ u_48) (hu _ u_517) (by decide +kernel) ⟨Nat.le_of_ble_eq_true rfl, Nat.le_of_ble_eq_true rfl⟩, hu _ u_519, hu _ u_5⟩ rfl rfl rfl (by decide) (by decide) (by decide) rfl rfl rfl rfl hl.1 rfl (Nat.le_of_ble_eq_true rfl) dX0_travel_102 (fun H locs hP hD hS => ?_)
        have hP : va_P D vwCl [(qt, .inr (0, [.ref qn, .ref qy, .int o_12, .int o_13, .int o_14, .int o_15, .int (t_computed + (1 : Int32)), .int o_16, .int o_17, .ref qt_visited, .ref qt_metLow, .ref qt_metHigh])), (qt_visited, .inl (cI, 41, .inl o_18)), (qt_metLow, .inl (cI, 18, .inl o_19)), (qt_metHigh, .inl (cI, 18, .inl o_20)), (qy, .inr (4, [.ref qn, .ref qy_far, .int o_8])), (qy_far, .inl (cI, 9, .inl o_7)), (qn, .inr (1, [.int n_nodes, .int n_links, .int n_room, .int n_alive, .int n_inMap, .ref qn_low, .ref qn_high, .ref qn_length])), (qn_low, .inl (cI, 18, .inl n_low)), (qn_high, .inl (cI, 18, .inl n_high)), (qn_length, .inl (cI, 18, .inl n_length))] H := hP
        have hD : va_D A [(qt, .inr (0, [.ref qn, .ref qy, .int o_12, .int o_13, .int o_14, .int o_15, .int (t_computed + (1 : Int32)), .int o_16, .int o_17, .ref qt_visited, .ref qt_metLow, .ref qt_metHigh])), (qt_visited, .inl (cI, 41, .inl o_18)), (qt_metLow, .inl (cI, 18, .inl o_19)), (qt_metHigh, .inl (cI, 18, .inl o_20)), (qy, .inr (4, [.ref qn, .ref qy_far, .int o_8])), (qy_far, .inl (cI, 9, .inl o_7)), (qn, .inr (1, [.int n_nodes, .int n_links, .int n_room, .int n_alive, .int n_inMap, .ref qn_low, .ref qn_high, .ref qn_length])), (qn_low, .inl (cI, 18, .inl n_low)), (qn_high, .inl (cI, 18, .inl n_high)), (qn_length, .inl (cI, 18, .inl n_length))] := hD
        refine lv_iinc (v := (x6 + (1 : Int32))) (lv' := [(6, .int (x6 + (1 : Int32))), (7, .int s0), (0, .ref qt), (2, .int x2), (3, .int x3), (4, .int x4), (5, .int x5)]) hx hb dX0_travel_105 hl (k := 6) rfl rfl (by decide) rfl (fun ls hl => ?_)
        refine lv_goto (tgt := 12) hx hb dX0_travel_108 (by decide) ?_
        exact ih12 x2 x3 x4 x5 (x6 + (1 : Int32)) o_12 o_13 o_14 o_15 (t_computed + (1 : Int32)) o_16 o_17 o_18 o_19 o_20 o_7 o_8 n_nodes n_links n_alive n_inMap n_low n_high n_length _ _ _ hP hD hS (lv_sub hl [2, 3, 4, 5, 6, 0] rfl) h
      refine lv_iload hx hb dX0_travel_12 (lv_at hl 5 rfl) ?_
      refine lv_iload hx hb dX0_travel_14 (lv_at hl 4 rfl) ?_
      refine lv_icmp_ge (tgt := 111) hx hb dX0_travel_16 (by decide) (fun cc_1 => ?_) (fun cc_1 => ?_)
      · have h := (if_pos cc_1).symm.trans h
        have hq := Option.some.inj h
        clear h
        obtain ⟨e0, hq0⟩ := Prod.mk.inj hq
        clear hq
        obtain ⟨e1, hq1⟩ := Prod.mk.inj hq0
        clear hq0
        obtain ⟨e2, hq2⟩ := Prod.mk.inj hq1
        clear hq1
        obtain ⟨e3, hq3⟩ := Prod.mk.inj hq2
        clear hq2
        obtain ⟨e4, hq4⟩ := Prod.mk.inj hq3
        clear hq3
        obtain ⟨e5, hq5⟩ := Prod.mk.inj hq4
        clear hq4
        obtain ⟨e6, hq6⟩ := Prod.mk.inj hq5
        clear hq5
        obtain ⟨e7, hq7⟩ := Prod.mk.inj hq6
        clear hq6
        obtain ⟨e8, hq8⟩ := Prod.mk.inj hq7
        clear hq7
        obtain ⟨e9, hq9⟩ := Prod.mk.inj hq8
        clear hq8
        obtain ⟨e10, hq10⟩ := Prod.mk.inj hq9
        clear hq9
        subst e0
        subst e1
        subst e2
        subst e3
        subst e4
        subst e5
        subst e6
        subst e7
        subst e8
        subst e9
        subst e10
        subst hq10
        exact k_retV hx hb hr hlocks hP hD hS dX0_travel_111
      · have h := (if_neg cc_1).symm.trans h
        refine lv_aload_n hx hb dX0_travel_19 rfl (lv_at hl 0 rfl) ?_
        refine va_get (D := D) (ci := 0) (v := .int t_cause) (C := RX0) (T := TX0) (N := 12) hx hb hu k_iX0 hown hK hP 0 rfl rfl 4 (by decide) (hu _ u_152) (fun _ h9 => h9) rfl dX0_travel_20 ?_
        refine lv_if_ne (tgt := 111) hx hb dX0_travel_23 (by decide) (fun cc_2 => ?_) (fun cc_2 => ?_)
        · have h := (if_neg cc_2).symm.trans h
          have hq := Option.some.inj h
          clear h
          obtain ⟨e0, hq0⟩ := Prod.mk.inj hq
          clear hq
          obtain ⟨e1, hq1⟩ := Prod.mk.inj hq0
          clear hq0
          obtain ⟨e2, hq2⟩ := Prod.mk.inj hq1
          clear hq1
          obtain ⟨e3, hq3⟩ := Prod.mk.inj hq2
          clear hq2
          obtain ⟨e4, hq4⟩ := Prod.mk.inj hq3
          clear hq3
          obtain ⟨e5, hq5⟩ := Prod.mk.inj hq4
          clear hq4
          obtain ⟨e6, hq6⟩ := Prod.mk.inj hq5
          clear hq5
          obtain ⟨e7, hq7⟩ := Prod.mk.inj hq6
          clear hq6
          obtain ⟨e8, hq8⟩ := Prod.mk.inj hq7
          clear hq7
          obtain ⟨e9, hq9⟩ := Prod.mk.inj hq8
          clear hq8
          obtain ⟨e10, hq10⟩ := Prod.mk.inj hq9
          clear hq9
          subst e0
          subst e1
          subst e2
          subst e3
          subst e4
          subst e5
          subst e6
          subst e7
          subst e8
          subst e9
          subst e10
          subst hq10
          exact k_retV hx hb hr hlocks hP hD hS dX0_travel_111
        · have h := (if_pos cc_2).symm.trans h
          refine lv_aload_n hx hb dX0_travel_26 rfl (lv_at hl 0 rfl) ?_
          refine va_get (D := D) (ci := 0) (v := .int t_place) (C := RX0) (T := TX0) (N := 12) hx hb hu k_iX0 hown hK hP 0 rfl rfl 5 (by decide) (hu _ u_154) (fun _ h9 => h9) rfl dX0_travel_27 ?_
          refine lv_iload_n hx hb dX0_travel_30 rfl (lv_at hl 1 rfl) ?_
          refine lv_icmp_eq (tgt := 111) hx hb dX0_travel_31 (by decide) (fun cc_3 => ?_) (fun cc_3 => ?_)
          · have h := (if_pos cc_3).symm.trans h
            have hq := Option.some.inj h
            clear h
            obtain ⟨e0, hq0⟩ := Prod.mk.inj hq
            clear hq
            obtain ⟨e1, hq1⟩ := Prod.mk.inj hq0
            clear hq0
            obtain ⟨e2, hq2⟩ := Prod.mk.inj hq1
            clear hq1
            obtain ⟨e3, hq3⟩ := Prod.mk.inj hq2
            clear hq2
            obtain ⟨e4, hq4⟩ := Prod.mk.inj hq3
            clear hq3
            obtain ⟨e5, hq5⟩ := Prod.mk.inj hq4
            clear hq4
            obtain ⟨e6, hq6⟩ := Prod.mk.inj hq5
            clear hq5
            obtain ⟨e7, hq7⟩ := Prod.mk.inj hq6
            clear hq6
            obtain ⟨e8, hq8⟩ := Prod.mk.inj hq7
            clear hq7
            obtain ⟨e9, hq9⟩ := Prod.mk.inj hq8
            clear hq8
            obtain ⟨e10, hq10⟩ := Prod.mk.inj hq9
            clear hq9
            subst e0
            subst e1
            subst e2
            subst e3
            subst e4
            subst e5
            subst e6
            subst e7
            subst e8
            subst e9
            subst e10
            subst hq10
            exact k_retV hx hb hr hlocks hP hD hS dX0_travel_111
          · have h := (if_neg cc_3).symm.trans h
            refine lv_iload_n hx hb dX0_travel_34 rfl (lv_at hl 2 rfl) ?_
            refine lv_if_eq (tgt := 52) hx hb dX0_travel_35 (by decide) (fun cc_4 => ?_) (fun cc_4 => ?_)
            · have h := (if_pos cc_4).symm.trans h
              refine lv_aload_n hx hb dX0_travel_52 rfl (lv_at hl 0 rfl) ?_
              refine va_get (D := D) (ci := 0) (v := .int t_list) (C := RX0) (T := TX0) (N := 12) hx hb hu k_iX0 hown hK hP 0 rfl rfl 7 (by decide) (hu _ u_158) (fun _ h9 => h9) rfl dX0_travel_53 ?_
              exact w56 x2 x3 x4 x5 x6 t_list t_steps t_cost t_cause t_place t_computed t_list t_listed t_visited t_metLow t_metHigh y_far y_usable n_nodes n_links n_alive n_inMap n_low n_high n_length _ _ _ hP hD hS (lv_sub hl [0, 1, 2, 3, 4, 5] rfl) h
            · have h := (if_neg cc_4).symm.trans h
              refine lv_aload_n hx hb dX0_travel_38 rfl (lv_at hl 0 rfl) ?_
              refine va_get (D := D) (ci := 0) (v := .ref qn) (C := RX0) (T := TX0) (N := 12) hx hb hu k_iX0 hown hK hP 0 rfl rfl 0 (by decide) (hu _ u_144) (fun _ h9 => h9) rfl dX0_travel_39 ?_
              refine lv_aload_n hx hb dX0_travel_42 rfl (lv_at hl 0 rfl) ?_
              refine va_get (D := D) (ci := 0) (v := .int t_place) (C := RX0) (T := TX0) (N := 12) hx hb hu k_iX0 hown hK hP 0 rfl rfl 5 (by decide) (hu _ u_154) (fun _ h9 => h9) rfl dX0_travel_43 ?_
              obtain ⟨r_5, hc_6, h⟩ := ob_bind h
              refine k_callVIr (qb := 0) [6, 7, 8] (As := [.int t_place]) (rest := []) ⟨hx, hb, hml, hown, hts⟩ hT hZ hA hP hD hS (c_X1_deadLinksAt l D cI cZ cN aK aV qn qn_low qn_high qn_length n_nodes n_links n_room n_alive n_inMap n_low n_high t_place r_5 hc_6) ⟨callB_of 1 hts (k_good u_513) rfl rfl rfl (hu _ u_46) (hu _ u_510) (by decide +kernel) ⟨Nat.le_of_ble_eq_true rfl, Nat.le_of_ble_eq_true rfl⟩, hu _ u_511, hu _ u_512⟩ rfl rfl rfl (by decide) rfl hl.1 rfl (Nat.le_of_ble_eq_true rfl) dX0_travel_46 (fun H locs hP hD hS => ?_)
              refine lv_goto (tgt := 56) hx hb dX0_travel_49 (by decide) ?_
              exact w56 x2 x3 x4 x5 x6 r_5 t_steps t_cost t_cause t_place t_computed t_list t_listed t_visited t_metLow t_metHigh y_far y_usable n_nodes n_links n_alive n_inMap n_low n_high n_length _ _ _ hP hD hS (lv_sub hl [0, 1, 2, 3, 4, 5] rfl) h
  refine lv_aload_n hx hb dX0_travel_0 rfl (lv_at hl 0 rfl) ?_
  refine lv_iload_n hx hb dX0_travel_1 rfl (lv_at hl 1 rfl) ?_
  refine k_callVV (qb := 0) [0, 1] [0, 1] [0, 1] [(qt, .inr (0, [.ref qn, .ref qy, .int ((f_X0_startAt p1 t_steps t_cost t_cause t_place t_computed t_list t_listed t_visited).1), .int ((f_X0_startAt p1 t_steps t_cost t_cause t_place t_computed t_list t_listed t_visited).2.1), .int ((f_X0_startAt p1 t_steps t_cost t_cause t_place t_computed t_list t_listed t_visited).2.2.1), .int ((f_X0_startAt p1 t_steps t_cost t_cause t_place t_computed t_list t_listed t_visited).2.2.2.1), .int ((f_X0_startAt p1 t_steps t_cost t_cause t_place t_computed t_list t_listed t_visited).2.2.2.2.1), .int ((f_X0_startAt p1 t_steps t_cost t_cause t_place t_computed t_list t_listed t_visited).2.2.2.2.2.1), .int ((f_X0_startAt p1 t_steps t_cost t_cause t_place t_computed t_list t_listed t_visited).2.2.2.2.2.2.1), .ref qt_visited, .ref qt_metLow, .ref qt_metHigh])), (qt_visited, .inl (cI, 41, .inl ((f_X0_startAt p1 t_steps t_cost t_cause t_place t_computed t_list t_listed t_visited).2.2.2.2.2.2.2)))] (As := [.int p1]) (rest := []) ⟨hx, hb, hml, hown, hts⟩ hT hZ hA hP hD hS (c_X0_startAt l D cI cZ cN aK aV qt qt_visited qt_metLow qt_metHigh qy qn t_steps t_cost t_cause t_place t_computed t_list t_listed t_visited p1 _ _ _ _ _ _ _ _ rfl) ⟨callB_of 1 hts (k_good u_509) rfl rfl rfl (hu _ u_48) (hu _ u_506) (by decide +kernel) ⟨Nat.le_of_ble_eq_true rfl, Nat.le_of_ble_eq_true rfl⟩, hu _ u_508, hu _ u_4⟩ rfl rfl rfl (by decide) (by decide) (by decide) rfl rfl rfl rfl hl.1 rfl (Nat.le_of_ble_eq_true rfl) dX0_travel_2 (fun H locs hP hD hS => ?_)
  have hP : va_P D vwCl [(qt, .inr (0, [.ref qn, .ref qy, .int ((f_X0_startAt p1 t_steps t_cost t_cause t_place t_computed t_list t_listed t_visited).1), .int ((f_X0_startAt p1 t_steps t_cost t_cause t_place t_computed t_list t_listed t_visited).2.1), .int ((f_X0_startAt p1 t_steps t_cost t_cause t_place t_computed t_list t_listed t_visited).2.2.1), .int ((f_X0_startAt p1 t_steps t_cost t_cause t_place t_computed t_list t_listed t_visited).2.2.2.1), .int ((f_X0_startAt p1 t_steps t_cost t_cause t_place t_computed t_list t_listed t_visited).2.2.2.2.1), .int ((f_X0_startAt p1 t_steps t_cost t_cause t_place t_computed t_list t_listed t_visited).2.2.2.2.2.1), .int ((f_X0_startAt p1 t_steps t_cost t_cause t_place t_computed t_list t_listed t_visited).2.2.2.2.2.2.1), .ref qt_visited, .ref qt_metLow, .ref qt_metHigh])), (qt_visited, .inl (cI, 41, .inl ((f_X0_startAt p1 t_steps t_cost t_cause t_place t_computed t_list t_listed t_visited).2.2.2.2.2.2.2))), (qt_metLow, .inl (cI, 18, .inl t_metLow)), (qt_metHigh, .inl (cI, 18, .inl t_metHigh)), (qy, .inr (4, [.ref qn, .ref qy_far, .int y_usable])), (qy_far, .inl (cI, 9, .inl y_far)), (qn, .inr (1, [.int n_nodes, .int n_links, .int n_room, .int n_alive, .int n_inMap, .ref qn_low, .ref qn_high, .ref qn_length])), (qn_low, .inl (cI, 18, .inl n_low)), (qn_high, .inl (cI, 18, .inl n_high)), (qn_length, .inl (cI, 18, .inl n_length))] H := hP
  have hD : va_D A [(qt, .inr (0, [.ref qn, .ref qy, .int ((f_X0_startAt p1 t_steps t_cost t_cause t_place t_computed t_list t_listed t_visited).1), .int ((f_X0_startAt p1 t_steps t_cost t_cause t_place t_computed t_list t_listed t_visited).2.1), .int ((f_X0_startAt p1 t_steps t_cost t_cause t_place t_computed t_list t_listed t_visited).2.2.1), .int ((f_X0_startAt p1 t_steps t_cost t_cause t_place t_computed t_list t_listed t_visited).2.2.2.1), .int ((f_X0_startAt p1 t_steps t_cost t_cause t_place t_computed t_list t_listed t_visited).2.2.2.2.1), .int ((f_X0_startAt p1 t_steps t_cost t_cause t_place t_computed t_list t_listed t_visited).2.2.2.2.2.1), .int ((f_X0_startAt p1 t_steps t_cost t_cause t_place t_computed t_list t_listed t_visited).2.2.2.2.2.2.1), .ref qt_visited, .ref qt_metLow, .ref qt_metHigh])), (qt_visited, .inl (cI, 41, .inl ((f_X0_startAt p1 t_steps t_cost t_cause t_place t_computed t_list t_listed t_visited).2.2.2.2.2.2.2))), (qt_metLow, .inl (cI, 18, .inl t_metLow)), (qt_metHigh, .inl (cI, 18, .inl t_metHigh)), (qy, .inr (4, [.ref qn, .ref qy_far, .int y_usable])), (qy_far, .inl (cI, 9, .inl y_far)), (qn, .inr (1, [.int n_nodes, .int n_links, .int n_room, .int n_alive, .int n_inMap, .ref qn_low, .ref qn_high, .ref qn_length])), (qn_low, .inl (cI, 18, .inl n_low)), (qn_high, .inl (cI, 18, .inl n_high)), (qn_length, .inl (cI, 18, .inl n_length))] := hD
  refine lv_bipush (v := (59 : Int32)) hx hb dX0_travel_5 (by decide) ?_
  refine lv_istore (lv' := [(5, .int (59 : Int32)), (0, .ref qt), (1, .int p1), (2, .int p2), (3, .int p3), (4, .int p4)]) hx hb dX0_travel_7 hl (by decide) rfl (fun ls hl => ?_)
  refine lv_iconst (v := (0 : Int32)) hx hb dX0_travel_9 (by decide) ?_
  refine lv_istore (lv' := [(6, .int (0 : Int32)), (5, .int (59 : Int32)), (0, .ref qt), (1, .int p1), (2, .int p2), (3, .int p3), (4, .int p4)]) hx hb dX0_travel_10 hl (by decide) rfl (fun ls hl => ?_)
  exact w12 1000 p2 p3 p4 (59 : Int32) (0 : Int32) ((f_X0_startAt p1 t_steps t_cost t_cause t_place t_computed t_list t_listed t_visited).1) ((f_X0_startAt p1 t_steps t_cost t_cause t_place t_computed t_list t_listed t_visited).2.1) ((f_X0_startAt p1 t_steps t_cost t_cause t_place t_computed t_list t_listed t_visited).2.2.1) ((f_X0_startAt p1 t_steps t_cost t_cause t_place t_computed t_list t_listed t_visited).2.2.2.1) ((f_X0_startAt p1 t_steps t_cost t_cause t_place t_computed t_list t_listed t_visited).2.2.2.2.1) ((f_X0_startAt p1 t_steps t_cost t_cause t_place t_computed t_list t_listed t_visited).2.2.2.2.2.1) ((f_X0_startAt p1 t_steps t_cost t_cause t_place t_computed t_list t_listed t_visited).2.2.2.2.2.2.1) ((f_X0_startAt p1 t_steps t_cost t_cause t_place t_computed t_list t_listed t_visited).2.2.2.2.2.2.2) t_metLow t_metHigh y_far y_usable n_nodes n_links n_alive n_inMap n_low n_high n_length _ _ _ hP hD hS (lv_sub hl [2, 4, 5, 6, 1, 0] rfl) h
