def f_X2_forget (v_joined : Int32) (v_arrived : Int32) (v_lostInVain : Int32) (v_costs : Int32) (v_trueLengths : Int32) (v_longestList : Int32) (v_longestListArrived : Int32) (v_mostSteps : Int32) (v_dearer : Int32) : Int32 × Int32 × Int32 × Int32 × Int32 × Int32 × Int32 × Int32 × Int32 :=
  ((0 : Int32), (0 : Int32), (0 : Int32), (0 : Int32), (0 : Int32), (0 : Int32), (0 : Int32), (0 : Int32), (0 : Int32))
set_option maxHeartbeats 4000000 in
set_option maxRecDepth 100000 in
theorem c_X2_forget (l : Launch) (D : va_G) (cI cZ cN : ClassId) (aK aV : Nat → Nat)  (qv : Nat) (qt : Nat) (qy : Nat) (qn : Nat) (v_joined : Int32) (v_arrived : Int32) (v_lostInVain : Int32) (v_costs : Int32) (v_trueLengths : Int32) (v_longestList : Int32) (v_longestListArrived : Int32) (v_mostSteps : Int32) (v_dearer : Int32) (z_v_joined : Int32) (z_v_arrived : Int32) (z_v_lostInVain : Int32) (z_v_costs : Int32) (z_v_trueLengths : Int32) (z_v_longestList : Int32) (z_v_longestListArrived : Int32) (z_v_mostSteps : Int32) (z_v_dearer : Int32) (h : f_X2_forget v_joined v_arrived v_lostInVain v_costs v_trueLengths v_longestList v_longestListArrived v_mostSteps v_dearer = (z_v_joined, z_v_arrived, z_v_lostInVain, z_v_costs, z_v_trueLengths, z_v_longestList, z_v_longestListArrived, z_v_mostSteps, z_v_dearer)) : CtV l D cI cZ cN aK aV yX2_forget (k_W yX2_forget cX2_forget 1 none) { frames := 0, cells := 0, slots := 0, locals := 0 } [.ref qv] [(qv, .inr (2, [.ref qn, .ref qy, .ref qt, .int v_joined, .int v_arrived, .int v_lostInVain, .int v_costs, .int v_trueLengths, .int v_longestList, .int v_longestListArrived, .int v_mostSteps, .int v_dearer]))] [(qv, .inr (2, [.ref qn, .ref qy, .ref qt, .int z_v_joined, .int z_v_arrived, .int z_v_lostInVain, .int z_v_costs, .int z_v_trueLengths, .int z_v_longestList, .int z_v_longestListArrived, .int z_v_mostSteps, .int z_v_dearer]))] := by
  refine k_startV (by decide) (Nat.le_of_ble_eq_true rfl) ?_
  intro p e s m below meth c A ls hx hb hr hml hown hts hlocks hT hZ hA hP hD hS hl
  have hK := hT.1
  have hu : ∀ w ∈ k_U, w.before ([.ref qv] : List Value).toArray s = true := fun w h => hts w (List.mem_cons_of_mem _ h)
  have hown : s.vm.findClass RX2 = some m.cls := hown
  have hl : lv_has ls 1 [(0, .ref qv)] := hl
  unfold f_X2_forget at h
  refine lv_aload_n hx hb dX2_forget_0 rfl (lv_at hl 0 rfl) ?_
  refine lv_iconst (v := (0 : Int32)) hx hb dX2_forget_1 (by decide) ?_
  refine va_put (D := D) (ci := 2) (v := .int (0 : Int32)) (ty := .int) (C := RX2) (T := TX2) (N := 12) hx hb hu k_iX2 tyX2 tyX2_ok nmX2 hown hK hP hD hS 0 rfl rfl 3 (by decide) (hu _ u_204) (fun _ h9 => h9) rfl (by decide +kernel) rfl rfl (Nat.le_of_ble_eq_true rfl) dX2_forget_2 (fun H locs hP hD hS => ?_)
  have hP : va_P D vwCl [(qv, .inr (2, [.ref qn, .ref qy, .ref qt, .int (0 : Int32), .int v_arrived, .int v_lostInVain, .int v_costs, .int v_trueLengths, .int v_longestList, .int v_longestListArrived, .int v_mostSteps, .int v_dearer]))] H := hP
  have hD : va_D A [(qv, .inr (2, [.ref qn, .ref qy, .ref qt, .int (0 : Int32), .int v_arrived, .int v_lostInVain, .int v_costs, .int v_trueLengths, .int v_longestList, .int v_longestListArrived, .int v_mostSteps, .int v_dearer]))] := hD
  refine lv_aload_n hx hb dX2_forget_5 rfl (lv_at hl 0 rfl) ?_
  refine lv_iconst (v := (0 : Int32)) hx hb dX2_forget_6 (by decide) ?_
  refine va_put (D := D) (ci := 2) (v := .int (0 : Int32)) (ty := .int) (C := RX2) (T := TX2) (N := 12) hx hb hu k_iX2 tyX2 tyX2_ok nmX2 hown hK hP hD hS 0 rfl rfl 4 (by decide) (hu _ u_206) (fun _ h9 => h9) rfl (by decide +kernel) rfl rfl (Nat.le_of_ble_eq_true rfl) dX2_forget_7 (fun H locs hP hD hS => ?_)
  have hP : va_P D vwCl [(qv, .inr (2, [.ref qn, .ref qy, .ref qt, .int (0 : Int32), .int (0 : Int32), .int v_lostInVain, .int v_costs, .int v_trueLengths, .int v_longestList, .int v_longestListArrived, .int v_mostSteps, .int v_dearer]))] H := hP
  have hD : va_D A [(qv, .inr (2, [.ref qn, .ref qy, .ref qt, .int (0 : Int32), .int (0 : Int32), .int v_lostInVain, .int v_costs, .int v_trueLengths, .int v_longestList, .int v_longestListArrived, .int v_mostSteps, .int v_dearer]))] := hD
  refine lv_aload_n hx hb dX2_forget_10 rfl (lv_at hl 0 rfl) ?_
  refine lv_iconst (v := (0 : Int32)) hx hb dX2_forget_11 (by decide) ?_
  refine va_put (D := D) (ci := 2) (v := .int (0 : Int32)) (ty := .int) (C := RX2) (T := TX2) (N := 12) hx hb hu k_iX2 tyX2 tyX2_ok nmX2 hown hK hP hD hS 0 rfl rfl 5 (by decide) (hu _ u_208) (fun _ h9 => h9) rfl (by decide +kernel) rfl rfl (Nat.le_of_ble_eq_true rfl) dX2_forget_12 (fun H locs hP hD hS => ?_)
  have hP : va_P D vwCl [(qv, .inr (2, [.ref qn, .ref qy, .ref qt, .int (0 : Int32), .int (0 : Int32), .int (0 : Int32), .int v_costs, .int v_trueLengths, .int v_longestList, .int v_longestListArrived, .int v_mostSteps, .int v_dearer]))] H := hP
  have hD : va_D A [(qv, .inr (2, [.ref qn, .ref qy, .ref qt, .int (0 : Int32), .int (0 : Int32), .int (0 : Int32), .int v_costs, .int v_trueLengths, .int v_longestList, .int v_longestListArrived, .int v_mostSteps, .int v_dearer]))] := hD
  refine lv_aload_n hx hb dX2_forget_15 rfl (lv_at hl 0 rfl) ?_
  refine lv_iconst (v := (0 : Int32)) hx hb dX2_forget_16 (by decide) ?_
  refine va_put (D := D) (ci := 2) (v := .int (0 : Int32)) (ty := .int) (C := RX2) (T := TX2) (N := 12) hx hb hu k_iX2 tyX2 tyX2_ok nmX2 hown hK hP hD hS 0 rfl rfl 6 (by decide) (hu _ u_210) (fun _ h9 => h9) rfl (by decide +kernel) rfl rfl (Nat.le_of_ble_eq_true rfl) dX2_forget_17 (fun H locs hP hD hS => ?_)
  have hP : va_P D vwCl [(qv, .inr (2, [.ref qn, .ref qy, .ref qt, .int (0 : Int32), .int (0 : Int32), .int (0 : Int32), .int (0 : Int32), .int v_trueLengths, .int v_longestList, .int v_longestListArrived, .int v_mostSteps, .int v_dearer]))] H := hP
  have hD : va_D A [(qv, .inr (2, [.ref qn, .ref qy, .ref qt, .int (0 : Int32), .int (0 : Int32), .int (0 : Int32), .int (0 : Int32), .int v_trueLengths, .int v_longestList, .int v_longestListArrived, .int v_mostSteps, .int v_dearer]))] := hD
  refine lv_aload_n hx hb dX2_forget_20 rfl (lv_at hl 0 rfl) ?_
  refine lv_iconst (v := (0 : Int32)) hx hb dX2_forget_21 (by decide) ?_
  refine va_put (D := D) (ci := 2) (v := .int (0 : Int32)) (ty := .int) (C := RX2) (T := TX2) (N := 12) hx hb hu k_iX2 tyX2 tyX2_ok nmX2 hown hK hP hD hS 0 rfl rfl 7 (by decide) (hu _ u_212) (fun _ h9 => h9) rfl (by decide +kernel) rfl rfl (Nat.le_of_ble_eq_true rfl) dX2_forget_22 (fun H locs hP hD hS => ?_)
  have hP : va_P D vwCl [(qv, .inr (2, [.ref qn, .ref qy, .ref qt, .int (0 : Int32), .int (0 : Int32), .int (0 : Int32), .int (0 : Int32), .int (0 : Int32), .int v_longestList, .int v_longestListArrived, .int v_mostSteps, .int v_dearer]))] H := hP
  have hD : va_D A [(qv, .inr (2, [.ref qn, .ref qy, .ref qt, .int (0 : Int32), .int (0 : Int32), .int (0 : Int32), .int (0 : Int32), .int (0 : Int32), .int v_longestList, .int v_longestListArrived, .int v_mostSteps, .int v_dearer]))] := hD
  refine lv_aload_n hx hb dX2_forget_25 rfl (lv_at hl 0 rfl) ?_
  refine lv_iconst (v := (0 : Int32)) hx hb dX2_forget_26 (by decide) ?_
  refine va_put (D := D) (ci := 2) (v := .int (0 : Int32)) (ty := .int) (C := RX2) (T := TX2) (N := 12) hx hb hu k_iX2 tyX2 tyX2_ok nmX2 hown hK hP hD hS 0 rfl rfl 8 (by decide) (hu _ u_214) (fun _ h9 => h9) rfl (by decide +kernel) rfl rfl (Nat.le_of_ble_eq_true rfl) dX2_forget_27 (fun H locs hP hD hS => ?_)
  have hP : va_P D vwCl [(qv, .inr (2, [.ref qn, .ref qy, .ref qt, .int (0 : Int32), .int (0 : Int32), .int (0 : Int32), .int (0 : Int32), .int (0 : Int32), .int (0 : Int32), .int v_longestListArrived, .int v_mostSteps, .int v_dearer]))] H := hP
  have hD : va_D A [(qv, .inr (2, [.ref qn, .ref qy, .ref qt, .int (0 : Int32), .int (0 : Int32), .int (0 : Int32), .int (0 : Int32), .int (0 : Int32), .int (0 : Int32), .int v_longestListArrived, .int v_mostSteps, .int v_dearer]))] := hD
  refine lv_aload_n hx hb dX2_forget_30 rfl (lv_at hl 0 rfl) ?_
  refine lv_iconst (v := (0 : Int32)) hx hb dX2_forget_31 (by decide) ?_
  refine va_put (D := D) (ci := 2) (v := .int (0 : Int32)) (ty := .int) (C := RX2) (T := TX2) (N := 12) hx hb hu k_iX2 tyX2 tyX2_ok nmX2 hown hK hP hD hS 0 rfl rfl 9 (by decide) (hu _ u_216) (fun _ h9 => h9) rfl (by decide +kernel) rfl rfl (Nat.le_of_ble_eq_true rfl) dX2_forget_32 (fun H locs hP hD hS => ?_)
  have hP : va_P D vwCl [(qv, .inr (2, [.ref qn, .ref qy, .ref qt, .int (0 : Int32), .int (0 : Int32), .int (0 : Int32), .int (0 : Int32), .int (0 : Int32), .int (0 : Int32), .int (0 : Int32), .int v_mostSteps, .int v_dearer]))] H := hP
  have hD : va_D A [(qv, .inr (2, [.ref qn, .ref qy, .ref qt, .int (0 : Int32), .int (0 : Int32), .int (0 : Int32), .int (0 : Int32), .int (0 : Int32), .int (0 : Int32), .int (0 : Int32), .int v_mostSteps, .int v_dearer]))] := hD
  refine lv_aload_n hx hb dX2_forget_35 rfl (lv_at hl 0 rfl) ?_
  refine lv_iconst (v := (0 : Int32)) hx hb dX2_forget_36 (by decide) ?_
  refine va_put (D := D) (ci := 2) (v := .int (0 : Int32)) (ty := .int) (C := RX2) (T := TX2) (N := 12) hx hb hu k_iX2 tyX2 tyX2_ok nmX2 hown hK hP hD hS 0 rfl rfl 10 (by decide) (hu _ u_218) (fun _ h9 => h9) rfl (by decide +kernel) rfl rfl (Nat.le_of_ble_eq_true rfl) dX2_forget_37 (fun H locs hP hD hS => ?_)
  have hP : va_P D vwCl [(qv, .inr (2, [.ref qn, .ref qy, .ref qt, .int (0 : Int32), .int (0 : Int32), .int (0 : Int32), .int (0 : Int32), .int (0 : Int32), .int (0 : Int32), .int (0 : Int32), .int (0 : Int32), .int v_dearer]))] H := hP
  have hD : va_D A [(qv, .inr (2, [.ref qn, .ref qy, .ref qt, .int (0 : Int32), .int (0 : Int32), .int (0 : Int32), .int (0 : Int32), .int (0 : Int32), .int (0 : Int32), .int (0 : Int32), .int (0 : Int32), .int v_dearer]))] := hD
  refine lv_aload_n hx hb dX2_forget_40 rfl (lv_at hl 0 rfl) ?_
  refine lv_iconst (v := (0 : Int32)) hx hb dX2_forget_41 (by decide) ?_
  refine va_put (D := D) (ci := 2) (v := .int (0 : Int32)) (ty := .int) (C := RX2) (T := TX2) (N := 12) hx hb hu k_iX2 tyX2 tyX2_ok nmX2 hown hK hP hD hS 0 rfl rfl 11 (by decide) (hu _ u_220) (fun _ h9 => h9) rfl (by decide +kernel) rfl rfl (Nat.le_of_ble_eq_true rfl) dX2_forget_42 (fun H locs hP hD hS => ?_)
  have hP : va_P D vwCl [(qv, .inr (2, [.ref qn, .ref qy, .ref qt, .int (0 : Int32), .int (0 : Int32), .int (0 : Int32), .int (0 : Int32), .int (0 : Int32), .int (0 : Int32), .int (0 : Int32), .int (0 : Int32), .int (0 : Int32)]))] H := hP
  have hD : va_D A [(qv, .inr (2, [.ref qn, .ref qy, .ref qt, .int (0 : Int32), .int (0 : Int32), .int (0 : Int32), .int (0 : Int32), .int (0 : Int32), .int (0 : Int32), .int (0 : Int32), .int (0 : Int32), .int (0 : Int32)]))] := hD
  have hq := h
  clear h
  obtain ⟨e0, hq0⟩ := Prod.mk.inj hq
  clear hq
  obtain ⟨e1, hq1⟩ := Prod.mk.inj hq0
  clear hq0
  obtain ⟨e2, hq2⟩ := Prod.mk.inj hq1
  clear hq1
  obtain ⟨e3, hq3⟩ := Prod.mk.inj hq2
  clear hq2
  obtain ⟨e4, hq4⟩ := Prod.mk.inj hq3
  clear hq3
  obtain ⟨e5, hq5⟩ := Prod.mk.inj hq4
  clear hq4
  obtain ⟨e6, hq6⟩ := Prod.mk.inj hq5
  clear hq5
  obtain ⟨e7, hq7⟩ := Prod.mk.inj hq6
  clear hq6
  subst e0
  subst e1
  subst e2
  subst e3
  subst e4
  subst e5
  subst e6
  subst e7
  subst hq7
  exact k_retV hx hb hr hlocks hP hD hS dX2_forget_45
def f_X2_countArrived (p1 : Int32) (v_arrived : Int32) (v_costs : Int32) (v_trueLengths : Int32) (v_longestListArrived : Int32) (v_dearer : Int32) (t_cost : Int32) (t_listed : Int32) : Int32 × Int32 × Int32 × Int32 × Int32 :=
  if t_cost ≤ p1 then
    ((v_arrived + (1 : Int32)), (v_costs + t_cost), (v_trueLengths + p1), (if v_longestListArrived < t_listed then t_listed else v_longestListArrived), v_dearer)
  else
    ((v_arrived + (1 : Int32)), (v_costs + t_cost), (v_trueLengths + p1), (if v_longestListArrived < t_listed then t_listed else v_longestListArrived), (v_dearer + (1 : Int32)))
set_option maxHeartbeats 4000000 in
set_option maxRecDepth 100000 in
theorem c_X2_countArrived (l : Launch) (D : va_G) (cI cZ cN : ClassId) (aK aV : Nat → Nat)  (qv : Nat) (qt : Nat) (qt_visited : Nat) (qt_metLow : Nat) (qt_metHigh : Nat) (qy : Nat) (qn : Nat) (v_joined : Int32) (v_arrived : Int32) (v_lostInVain : Int32) (v_costs : Int32) (v_trueLengths : Int32) (v_longestList : Int32) (v_longestListArrived : Int32) (v_mostSteps : Int32) (v_dearer : Int32) (t_steps : Int32) (t_cost : Int32) (t_cause : Int32) (t_place : Int32) (t_computed : Int32) (t_list : Int32) (t_listed : Int32) (p1 : Int32) (z_v_arrived : Int32) (z_v_costs : Int32) (z_v_trueLengths : Int32) (z_v_longestListArrived : Int32) (z_v_dearer : Int32) (h : f_X2_countArrived p1 v_arrived v_costs v_trueLengths v_longestListArrived v_dearer t_cost t_listed = (z_v_arrived, z_v_costs, z_v_trueLengths, z_v_longestListArrived, z_v_dearer)) : CtV l D cI cZ cN aK aV yX2_countArrived (k_W yX2_countArrived cX2_countArrived 2 none) { frames := 1, cells := 0, slots := 0, locals := 14 } [.ref qv, .int p1] [(qv, .inr (2, [.ref qn, .ref qy, .ref qt, .int v_joined, .int v_arrived, .int v_lostInVain, .int v_costs, .int v_trueLengths, .int v_longestList, .int v_longestListArrived, .int v_mostSteps, .int v_dearer])), (qt, .inr (0, [.ref qn, .ref qy, .int t_steps, .int t_cost, .int t_cause, .int t_place, .int t_computed, .int t_list, .int t_listed, .ref qt_visited, .ref qt_metLow, .ref qt_metHigh]))] [(qv, .inr (2, [.ref qn, .ref qy, .ref qt, .int v_joined, .int z_v_arrived, .int v_lostInVain, .int z_v_costs, .int z_v_trueLengths, .int v_longestList, .int z_v_longestListArrived, .int v_mostSteps, .int z_v_dearer])), (qt, .inr (0, [.ref qn, .ref qy, .int t_steps, .int t_cost, .int t_cause, .int t_place, .int t_computed, .int t_list, .int t_listed, .ref qt_visited, .ref qt_metLow, .ref qt_metHigh]))] := by
  refine k_startV (by decide) (Nat.le_of_ble_eq_true rfl) ?_
  intro p e s m below meth c A ls hx hb hr hml hown hts hlocks hT hZ hA hP hD hS hl
  have hK := hT.1
  have hu : ∀ w ∈ k_U, w.before ([.ref qv, .int p1] : List Value).toArray s = true := fun w h => hts w (List.mem_cons_of_mem _ h)
  have hown : s.vm.findClass RX2 = some m.cls := hown
  have hl : lv_has ls 2 [(0, .ref qv), (1, .int p1)] := hl
  unfold f_X2_countArrived at h
  refine lv_aload_n hx hb dX2_countArrived_0 rfl (lv_at hl 0 rfl) ?_
  refine lv_dup hx hb dX2_countArrived_1 rfl ?_
  refine va_get (D := D) (ci := 2) (v := .int v_arrived) (C := RX2) (T := TX2) (N := 12) hx hb hu k_iX2 hown hK hP 0 rfl rfl 4 (by decide) (hu _ u_206) (fun _ h9 => h9) rfl dX2_countArrived_2 ?_
  refine lv_iconst (v := (1 : Int32)) hx hb dX2_countArrived_5 (by decide) ?_
  refine lv_iadd hx hb dX2_countArrived_6 ?_
  refine va_put (D := D) (ci := 2) (v := .int (v_arrived + (1 : Int32))) (ty := .int) (C := RX2) (T := TX2) (N := 12) hx hb hu k_iX2 tyX2 tyX2_ok nmX2 hown hK hP hD hS 0 rfl rfl 4 (by decide) (hu _ u_206) (fun _ h9 => h9) rfl (by decide +kernel) rfl rfl (Nat.le_of_ble_eq_true rfl) dX2_countArrived_7 (fun H locs hP hD hS => ?_)
  have hP : va_P D vwCl [(qv, .inr (2, [.ref qn, .ref qy, .ref qt, .int v_joined, .int (v_arrived + (1 : Int32)), .int v_lostInVain, .int v_costs, .int v_trueLengths, .int v_longestList, .int v_longestListArrived, .int v_mostSteps, .int v_dearer])), (qt, .inr (0, [.ref qn, .ref qy, .int t_steps, .int t_cost, .int t_cause, .int t_place, .int t_computed, .int t_list, .int t_listed, .ref qt_visited, .ref qt_metLow, .ref qt_metHigh]))] H := hP
  have hD : va_D A [(qv, .inr (2, [.ref qn, .ref qy, .ref qt, .int v_joined, .int (v_arrived + (1 : Int32)), .int v_lostInVain, .int v_costs, .int v_trueLengths, .int v_longestList, .int v_longestListArrived, .int v_mostSteps, .int v_dearer])), (qt, .inr (0, [.ref qn, .ref qy, .int t_steps, .int t_cost, .int t_cause, .int t_place, .int t_computed, .int t_list, .int t_listed, .ref qt_visited, .ref qt_metLow, .ref qt_metHigh]))] := hD
  refine lv_aload_n hx hb dX2_countArrived_10 rfl (lv_at hl 0 rfl) ?_
  refine lv_dup hx hb dX2_countArrived_11 rfl ?_
  refine va_get (D := D) (ci := 2) (v := .int v_costs) (C := RX2) (T := TX2) (N := 12) hx hb hu k_iX2 hown hK hP 0 rfl rfl 6 (by decide) (hu _ u_210) (fun _ h9 => h9) rfl dX2_countArrived_12 ?_
  refine lv_aload_n hx hb dX2_countArrived_15 rfl (lv_at hl 0 rfl) ?_
  refine va_get (D := D) (ci := 2) (v := .ref qt) (C := RX2) (T := TX2) (N := 12) hx hb hu k_iX2 hown hK hP 0 rfl rfl 2 (by decide) (hu _ u_203) (fun _ h9 => h9) rfl dX2_countArrived_16 ?_
  refine va_get (D := D) (ci := 0) (v := .int t_cost) (C := RX0) (T := TX0) (N := 12) hx hb hu k_iX0 hown hK hP 1 rfl rfl 3 (by decide) (hu _ u_150) (fun _ h9 => h9) rfl dX2_countArrived_19 ?_
  refine lv_iadd hx hb dX2_countArrived_22 ?_
  refine va_put (D := D) (ci := 2) (v := .int (v_costs + t_cost)) (ty := .int) (C := RX2) (T := TX2) (N := 12) hx hb hu k_iX2 tyX2 tyX2_ok nmX2 hown hK hP hD hS 0 rfl rfl 6 (by decide) (hu _ u_210) (fun _ h9 => h9) rfl (by decide +kernel) rfl rfl (Nat.le_of_ble_eq_true rfl) dX2_countArrived_23 (fun H locs hP hD hS => ?_)
  have hP : va_P D vwCl [(qv, .inr (2, [.ref qn, .ref qy, .ref qt, .int v_joined, .int (v_arrived + (1 : Int32)), .int v_lostInVain, .int (v_costs + t_cost), .int v_trueLengths, .int v_longestList, .int v_longestListArrived, .int v_mostSteps, .int v_dearer])), (qt, .inr (0, [.ref qn, .ref qy, .int t_steps, .int t_cost, .int t_cause, .int t_place, .int t_computed, .int t_list, .int t_listed, .ref qt_visited, .ref qt_metLow, .ref qt_metHigh]))] H := hP
  have hD : va_D A [(qv, .inr (2, [.ref qn, .ref qy, .ref qt, .int v_joined, .int (v_arrived + (1 : Int32)), .int v_lostInVain, .int (v_costs + t_cost), .int v_trueLengths, .int v_longestList, .int v_longestListArrived, .int v_mostSteps, .int v_dearer])), (qt, .inr (0, [.ref qn, .ref qy, .int t_steps, .int t_cost, .int t_cause, .int t_place, .int t_computed, .int t_list, .int t_listed, .ref qt_visited, .ref qt_metLow, .ref qt_metHigh]))] := hD
  refine lv_aload_n hx hb dX2_countArrived_26 rfl (lv_at hl 0 rfl) ?_
  refine lv_dup hx hb dX2_countArrived_27 rfl ?_
  refine va_get (D := D) (ci := 2) (v := .int v_trueLengths) (C := RX2) (T := TX2) (N := 12) hx hb hu k_iX2 hown hK hP 0 rfl rfl 7 (by decide) (hu _ u_212) (fun _ h9 => h9) rfl dX2_countArrived_28 ?_
  refine lv_iload_n hx hb dX2_countArrived_31 rfl (lv_at hl 1 rfl) ?_
  refine lv_iadd hx hb dX2_countArrived_32 ?_
  refine va_put (D := D) (ci := 2) (v := .int (v_trueLengths + p1)) (ty := .int) (C := RX2) (T := TX2) (N := 12) hx hb hu k_iX2 tyX2 tyX2_ok nmX2 hown hK hP hD hS 0 rfl rfl 7 (by decide) (hu _ u_212) (fun _ h9 => h9) rfl (by decide +kernel) rfl rfl (Nat.le_of_ble_eq_true rfl) dX2_countArrived_33 (fun H locs hP hD hS => ?_)
  have hP : va_P D vwCl [(qv, .inr (2, [.ref qn, .ref qy, .ref qt, .int v_joined, .int (v_arrived + (1 : Int32)), .int v_lostInVain, .int (v_costs + t_cost), .int (v_trueLengths + p1), .int v_longestList, .int v_longestListArrived, .int v_mostSteps, .int v_dearer])), (qt, .inr (0, [.ref qn, .ref qy, .int t_steps, .int t_cost, .int t_cause, .int t_place, .int t_computed, .int t_list, .int t_listed, .ref qt_visited, .ref qt_metLow, .ref qt_metHigh]))] H := hP
  have hD : va_D A [(qv, .inr (2, [.ref qn, .ref qy, .ref qt, .int v_joined, .int (v_arrived + (1 : Int32)), .int v_lostInVain, .int (v_costs + t_cost), .int (v_trueLengths + p1), .int v_longestList, .int v_longestListArrived, .int v_mostSteps, .int v_dearer])), (qt, .inr (0, [.ref qn, .ref qy, .int t_steps, .int t_cost, .int t_cause, .int t_place, .int t_computed, .int t_list, .int t_listed, .ref qt_visited, .ref qt_metLow, .ref qt_metHigh]))] := hD
  refine lv_aload_n hx hb dX2_countArrived_36 rfl (lv_at hl 0 rfl) ?_
  refine lv_aload_n hx hb dX2_countArrived_37 rfl (lv_at hl 0 rfl) ?_
  refine va_get (D := D) (ci := 2) (v := .int v_longestListArrived) (C := RX2) (T := TX2) (N := 12) hx hb hu k_iX2 hown hK hP 0 rfl rfl 9 (by decide) (hu _ u_216) (fun _ h9 => h9) rfl dX2_countArrived_38 ?_
  refine lv_aload_n hx hb dX2_countArrived_41 rfl (lv_at hl 0 rfl) ?_
  refine va_get (D := D) (ci := 2) (v := .ref qt) (C := RX2) (T := TX2) (N := 12) hx hb hu k_iX2 hown hK hP 0 rfl rfl 2 (by decide) (hu _ u_203) (fun _ h9 => h9) rfl dX2_countArrived_42 ?_
  refine va_get (D := D) (ci := 0) (v := .int t_listed) (C := RX0) (T := TX0) (N := 12) hx hb hu k_iX0 hown hK hP 1 rfl rfl 8 (by decide) (hu _ u_161) (fun _ h9 => h9) rfl dX2_countArrived_45 ?_
  refine va_mmax hx hb (hml.trans hl.1.symm) hown (hu _ u_568) (hu _ u_360) (hu _ u_52) (hu _ u_361) (Nat.le_of_ble_eq_true rfl) (Nat.le_of_ble_eq_true rfl) (Nat.zero_le _) (Nat.zero_le _) dX2_countArrived_48 ?_
  refine va_put (D := D) (ci := 2) (v := .int (if v_longestListArrived < t_listed then t_listed else v_longestListArrived)) (ty := .int) (C := RX2) (T := TX2) (N := 12) hx hb hu k_iX2 tyX2 tyX2_ok nmX2 hown hK hP hD hS 0 rfl rfl 9 (by decide) (hu _ u_216) (fun _ h9 => h9) rfl (by decide +kernel) rfl rfl (Nat.le_of_ble_eq_true rfl) dX2_countArrived_51 (fun H locs hP hD hS => ?_)
  have hP : va_P D vwCl [(qv, .inr (2, [.ref qn, .ref qy, .ref qt, .int v_joined, .int (v_arrived + (1 : Int32)), .int v_lostInVain, .int (v_costs + t_cost), .int (v_trueLengths + p1), .int v_longestList, .int (if v_longestListArrived < t_listed then t_listed else v_longestListArrived), .int v_mostSteps, .int v_dearer])), (qt, .inr (0, [.ref qn, .ref qy, .int t_steps, .int t_cost, .int t_cause, .int t_place, .int t_computed, .int t_list, .int t_listed, .ref qt_visited, .ref qt_metLow, .ref qt_metHigh]))] H := hP
  have hD : va_D A [(qv, .inr (2, [.ref qn, .ref qy, .ref qt, .int v_joined, .int (v_arrived + (1 : Int32)), .int v_lostInVain, .int (v_costs + t_cost), .int (v_trueLengths + p1), .int v_longestList, .int (if v_longestListArrived < t_listed then t_listed else v_longestListArrived), .int v_mostSteps, .int v_dearer])), (qt, .inr (0, [.ref qn, .ref qy, .int t_steps, .int t_cost, .int t_cause, .int t_place, .int t_computed, .int t_list, .int t_listed, .ref qt_visited, .ref qt_metLow, .ref qt_metHigh]))] := hD
  refine lv_aload_n hx hb dX2_countArrived_54 rfl (lv_at hl 0 rfl) ?_
  refine va_get (D := D) (ci := 2) (v := .ref qt) (C := RX2) (T := TX2) (N := 12) hx hb hu k_iX2 hown hK hP 0 rfl rfl 2 (by decide) (hu _ u_203) (fun _ h9 => h9) rfl dX2_countArrived_55 ?_
  refine va_get (D := D) (ci := 0) (v := .int t_cost) (C := RX0) (T := TX0) (N := 12) hx hb hu k_iX0 hown hK hP 1 rfl rfl 3 (by decide) (hu _ u_150) (fun _ h9 => h9) rfl dX2_countArrived_58 ?_
  refine lv_iload_n hx hb dX2_countArrived_61 rfl (lv_at hl 1 rfl) ?_
  refine lv_icmp_le (tgt := 75) hx hb dX2_countArrived_62 (by decide) (fun cc_1 => ?_) (fun cc_1 => ?_)
  · have h := (if_pos cc_1).symm.trans h
    have hq := h
    clear h
    obtain ⟨e0, hq0⟩ := Prod.mk.inj hq
    clear hq
    obtain ⟨e1, hq1⟩ := Prod.mk.inj hq0
    clear hq0
    obtain ⟨e2, hq2⟩ := Prod.mk.inj hq1
    clear hq1
    obtain ⟨e3, hq3⟩ := Prod.mk.inj hq2
    clear hq2
    subst e0
    subst e1
    subst e2
    subst e3
    subst hq3
    exact k_retV hx hb hr hlocks hP hD hS dX2_countArrived_75
  · have h := (if_neg cc_1).symm.trans h
    refine lv_aload_n hx hb dX2_countArrived_65 rfl (lv_at hl 0 rfl) ?_
    refine lv_dup hx hb dX2_countArrived_66 rfl ?_
    refine va_get (D := D) (ci := 2) (v := .int v_dearer) (C := RX2) (T := TX2) (N := 12) hx hb hu k_iX2 hown hK hP 0 rfl rfl 11 (by decide) (hu _ u_220) (fun _ h9 => h9) rfl dX2_countArrived_67 ?_
    refine lv_iconst (v := (1 : Int32)) hx hb dX2_countArrived_70 (by decide) ?_
    refine lv_iadd hx hb dX2_countArrived_71 ?_
    refine va_put (D := D) (ci := 2) (v := .int (v_dearer + (1 : Int32))) (ty := .int) (C := RX2) (T := TX2) (N := 12) hx hb hu k_iX2 tyX2 tyX2_ok nmX2 hown hK hP hD hS 0 rfl rfl 11 (by decide) (hu _ u_220) (fun _ h9 => h9) rfl (by decide +kernel) rfl rfl (Nat.le_of_ble_eq_true rfl) dX2_countArrived_72 (fun H locs hP hD hS => ?_)
    have hP : va_P D vwCl [(qv, .inr (2, [.ref qn, .ref qy, .ref qt, .int v_joined, .int (v_arrived + (1 : Int32)), .int v_lostInVain, .int (v_costs + t_cost), .int (v_trueLengths + p1), .int v_longestList, .int (if v_longestListArrived < t_listed then t_listed else v_longestListArrived), .int v_mostSteps, .int (v_dearer + (1 : Int32))])), (qt, .inr (0, [.ref qn, .ref qy, .int t_steps, .int t_cost, .int t_cause, .int t_place, .int t_computed, .int t_list, .int t_listed, .ref qt_visited, .ref qt_metLow, .ref qt_metHigh]))] H := hP
    have hD : va_D A [(qv, .inr (2, [.ref qn, .ref qy, .ref qt, .int v_joined, .int (v_arrived + (1 : Int32)), .int v_lostInVain, .int (v_costs + t_cost), .int (v_trueLengths + p1), .int v_longestList, .int (if v_longestListArrived < t_listed then t_listed else v_longestListArrived), .int v_mostSteps, .int (v_dearer + (1 : Int32))])), (qt, .inr (0, [.ref qn, .ref qy, .int t_steps, .int t_cost, .int t_cause, .int t_place, .int t_computed, .int t_list, .int t_listed, .ref qt_visited, .ref qt_metLow, .ref qt_metHigh]))] := hD
    have hq := h
    clear h
    obtain ⟨e0, hq0⟩ := Prod.mk.inj hq
    clear hq
    obtain ⟨e1, hq1⟩ := Prod.mk.inj hq0
    clear hq0
    obtain ⟨e2, hq2⟩ := Prod.mk.inj hq1
    clear hq1
    obtain ⟨e3, hq3⟩ := Prod.mk.inj hq2
    clear hq2
    subst e0
    subst e1
    subst e2
    subst e3
    subst hq3
    exact k_retV hx hb hr hlocks hP hD hS dX2_countArrived_75
def f_X2_takePair_b98  (x5 : Int32) (x6 : Int32) (v_joined : Int32) (v_arrived : Int32) (v_lostInVain : Int32) (v_costs : Int32) (v_trueLengths : Int32) (v_longestList : Int32) (v_longestListArrived : Int32) (v_mostSteps : Int32) (v_dearer : Int32) (t_steps : Int32) (t_cost : Int32) (t_cause : Int32) (t_place : Int32) (t_computed : Int32) (t_list : Int32) (t_listed : Int32) (t_visited : (Nat → Int32)) (t_metLow : (Nat → Int32)) (t_metHigh : (Nat → Int32)) (y_far : (Nat → Int32)) (y_usable : Int32) (n_nodes : Int32) (n_links : Int32) (n_alive : Int32) (n_inMap : Int32) (n_low : (Nat → Int32)) (n_high : (Nat → Int32)) (n_length : (Nat → Int32)) : Option (Int32 × Int32 × Int32 × Int32 × Int32 × Int32 × Int32 × Int32 × Int32 × Int32 × Int32 × Int32 × Int32 × Int32 × Int32 × Int32 × (Nat → Int32) × (Nat → Int32) × (Nat → Int32) × (Nat → Int32) × Int32) :=
  if (f_X0_hasArrived t_cause) = (0 : Int32) then
    if x5 = (0 : Int32) then
      some (v_joined, v_arrived, v_lostInVain, v_costs, v_trueLengths, v_longestList, v_longestListArrived, v_mostSteps, v_dearer, t_steps, t_cost, t_cause, t_place, t_computed, t_list, t_listed, t_visited, t_metLow, t_metHigh, y_far, y_usable)
    else
      some (v_joined, v_arrived, (v_lostInVain + (1 : Int32)), v_costs, v_trueLengths, v_longestList, v_longestListArrived, v_mostSteps, v_dearer, t_steps, t_cost, t_cause, t_place, t_computed, t_list, t_listed, t_visited, t_metLow, t_metHigh, y_far, y_usable)
  else
    some (v_joined, ((f_X2_countArrived x6 v_arrived v_costs v_trueLengths v_longestListArrived v_dearer t_cost t_listed).1), v_lostInVain, ((f_X2_countArrived x6 v_arrived v_costs v_trueLengths v_longestListArrived v_dearer t_cost t_listed).2.1), ((f_X2_countArrived x6 v_arrived v_costs v_trueLengths v_longestListArrived v_dearer t_cost t_listed).2.2.1), v_longestList, ((f_X2_countArrived x6 v_arrived v_costs v_trueLengths v_longestListArrived v_dearer t_cost t_listed).2.2.2.1), v_mostSteps, ((f_X2_countArrived x6 v_arrived v_costs v_trueLengths v_longestListArrived v_dearer t_cost t_listed).2.2.2.2), t_steps, t_cost, t_cause, t_place, t_computed, t_list, t_listed, t_visited, t_metLow, t_metHigh, y_far, y_usable)
def f_X2_takePair (p1 : Int32) (p2 : Int32) (p3 : Int32) (p4 : Int32) (v_joined : Int32) (v_arrived : Int32) (v_lostInVain : Int32) (v_costs : Int32) (v_trueLengths : Int32) (v_longestList : Int32) (v_longestListArrived : Int32) (v_mostSteps : Int32) (v_dearer : Int32) (t_steps : Int32) (t_cost : Int32) (t_cause : Int32) (t_place : Int32) (t_computed : Int32) (t_list : Int32) (t_listed : Int32) (t_visited : (Nat → Int32)) (t_metLow : (Nat → Int32)) (t_metHigh : (Nat → Int32)) (y_far : (Nat → Int32)) (y_usable : Int32) (n_nodes : Int32) (n_links : Int32) (n_alive : Int32) (n_inMap : Int32) (n_low : (Nat → Int32)) (n_high : (Nat → Int32)) (n_length : (Nat → Int32)) : Option (Int32 × Int32 × Int32 × Int32 × Int32 × Int32 × Int32 × Int32 × Int32 × Int32 × Int32 × Int32 × Int32 × Int32 × Int32 × Int32 × (Nat → Int32) × (Nat → Int32) × (Nat → Int32) × (Nat → Int32) × Int32) :=
  (f_X4_measure n_alive p2 y_far y_usable n_nodes n_links n_low n_high n_length).bind fun ⟨o_1, o_2⟩ =>
  (f_X4_leadsFrom p1 o_1).bind fun r_4 =>
  (f_X4_lengthFrom p1 o_1).bind fun r_6 =>
  (f_X0_travel p1 p2 p3 p4 t_steps t_cost t_cause t_place t_computed t_list t_listed t_visited t_metLow t_metHigh o_1 o_2 n_nodes n_links n_alive n_inMap n_low n_high n_length).bind fun ⟨o_8, o_9, o_10, o_11, o_12, o_13, o_14, o_15, o_16, o_17, o_18, o_19⟩ =>
  if r_4 = (0 : Int32) then
    f_X2_takePair_b98  r_4 r_6 v_joined v_arrived v_lostInVain v_costs v_trueLengths (if v_longestList < o_14 then o_14 else v_longestList) v_longestListArrived (if v_mostSteps < o_8 then o_8 else v_mostSteps) v_dearer o_8 o_9 o_10 o_11 o_12 o_13 o_14 o_15 o_16 o_17 o_18 o_19 n_nodes n_links n_alive n_inMap n_low n_high n_length
  else
    f_X2_takePair_b98  r_4 r_6 (v_joined + (1 : Int32)) v_arrived v_lostInVain v_costs v_trueLengths (if v_longestList < o_14 then o_14 else v_longestList) v_longestListArrived (if v_mostSteps < o_8 then o_8 else v_mostSteps) v_dearer o_8 o_9 o_10 o_11 o_12 o_13 o_14 o_15 o_16 o_17 o_18 o_19 n_nodes n_links n_alive n_inMap n_low n_high n_length
set_option maxHeartbeats 4000000 in
set_option maxRecDepth 100000 in
theorem c_X2_takePair (l : Launch) (D : va_G) (cI cZ cN : ClassId) (aK aV : Nat → Nat)  (qv : Nat) (qt : Nat) (qt_visited : Nat) (qt_metLow : Nat) (qt_metHigh : Nat) (qy : Nat) (qy_far : Nat) (qn : Nat) (qn_low : Nat) (qn_high : Nat) (qn_length : Nat) (v_joined : Int32) (v_arrived : Int32) (v_lostInVain : Int32) (v_costs : Int32) (v_trueLengths : Int32) (v_longestList : Int32) (v_longestListArrived : Int32) (v_mostSteps : Int32) (v_dearer : Int32) (t_steps : Int32) (t_cost : Int32) (t_cause : Int32) (t_place : Int32) (t_computed : Int32) (t_list : Int32) (t_listed : Int32) (t_visited : (Nat → Int32)) (t_metLow : (Nat → Int32)) (t_metHigh : (Nat → Int32)) (y_far : (Nat → Int32)) (y_usable : Int32) (n_nodes : Int32) (n_links : Int32) (n_room : Int32) (n_alive : Int32) (n_inMap : Int32) (n_low : (Nat → Int32)) (n_high : (Nat → Int32)) (n_length : (Nat → Int32)) (p1 p2 p3 p4 : Int32) (z_v_joined : Int32) (z_v_arrived : Int32) (z_v_lostInVain : Int32) (z_v_costs : Int32) (z_v_trueLengths : Int32) (z_v_longestList : Int32) (z_v_longestListArrived : Int32) (z_v_mostSteps : Int32) (z_v_dearer : Int32) (z_t_steps : Int32) (z_t_cost : Int32) (z_t_cause : Int32) (z_t_place : Int32) (z_t_computed : Int32) (z_t_list : Int32) (z_t_listed : Int32) (z_t_visited : (Nat → Int32)) (z_t_metLow : (Nat → Int32)) (z_t_metHigh : (Nat → Int32)) (z_y_far : (Nat → Int32)) (z_y_usable : Int32) (h : f_X2_takePair p1 p2 p3 p4 v_joined v_arrived v_lostInVain v_costs v_trueLengths v_longestList v_longestListArrived v_mostSteps v_dearer t_steps t_cost t_cause t_place t_computed t_list t_listed t_visited t_metLow t_metHigh y_far y_usable n_nodes n_links n_alive n_inMap n_low n_high n_length = some (z_v_joined, z_v_arrived, z_v_lostInVain, z_v_costs, z_v_trueLengths, z_v_longestList, z_v_longestListArrived, z_v_mostSteps, z_v_dearer, z_t_steps, z_t_cost, z_t_cause, z_t_place, z_t_computed, z_t_list, z_t_listed, z_t_visited, z_t_metLow, z_t_metHigh, z_y_far, z_y_usable)) : CtV l D cI cZ cN aK aV yX2_takePair (k_W yX2_takePair cX2_takePair 7 none) { frames := 4, cells := 0, slots := 0, locals := 97 } [.ref qv, .int p1, .int p2, .int p3, .int p4] [(qv, .inr (2, [.ref qn, .ref qy, .ref qt, .int v_joined, .int v_arrived, .int v_lostInVain, .int v_costs, .int v_trueLengths, .int v_longestList, .int v_longestListArrived, .int v_mostSteps, .int v_dearer])), (qt, .inr (0, [.ref qn, .ref qy, .int t_steps, .int t_cost, .int t_cause, .int t_place, .int t_computed, .int t_list, .int t_listed, .ref qt_visited, .ref qt_metLow, .ref qt_metHigh])), (qt_visited, .inl (cI, 41, .inl t_visited)), (qt_metLow, .inl (cI, 18, .inl t_metLow)), (qt_metHigh, .inl (cI, 18, .inl t_metHigh)), (qy, .inr (4, [.ref qn, .ref qy_far, .int y_usable])), (qy_far, .inl (cI, 9, .inl y_far)), (qn, .inr (1, [.int n_nodes, .int n_links, .int n_room, .int n_alive, .int n_inMap, .ref qn_low, .ref qn_high, .ref qn_length])), (qn_low, .inl (cI, 18, .inl n_low)), (qn_high, .inl (cI, 18, .inl n_high)), (qn_length, .inl (cI, 18, .inl n_length))] [(qv, .inr (2, [.ref qn, .ref qy, .ref qt, .int z_v_joined, .int z_v_arrived, .int z_v_lostInVain, .int z_v_costs, .int z_v_trueLengths, .int z_v_longestList, .int z_v_longestListArrived, .int z_v_mostSteps, .int z_v_dearer])), (qt, .inr (0, [.ref qn, .ref qy, .int z_t_steps, .int z_t_cost, .int z_t_cause, .int z_t_place, .int z_t_computed, .int z_t_list, .int z_t_listed, .ref qt_visited, .ref qt_metLow, .ref qt_metHigh])), (qt_visited, .inl (cI, 41, .inl z_t_visited)), (qt_metLow, .inl (cI, 18, .inl z_t_metLow)), (qt_metHigh, .inl (cI, 18, .inl z_t_metHigh)), (qy, .inr (4, [.ref qn, .ref qy_far, .int z_y_usable])), (qy_far, .inl (cI, 9, .inl z_y_far)), (qn, .inr (1, [.int n_nodes, .int n_links, .int n_room, .int n_alive, .int n_inMap, .ref qn_low, .ref qn_high, .ref qn_length])), (qn_low, .inl (cI, 18, .inl n_low)), (qn_high, .inl (cI, 18, .inl n_high)), (qn_length, .inl (cI, 18, .inl n_length))] := by
  refine k_startV (by decide) (Nat.le_of_ble_eq_true rfl) ?_
  intro p e s m below meth c A ls hx hb hr hml hown hts hlocks hT hZ hA hP hD hS hl
  have hK := hT.1
  have hu : ∀ w ∈ k_U, w.before ([.ref qv, .int p1, .int p2, .int p3, .int p4] : List Value).toArray s = true := fun w h => hts w (List.mem_cons_of_mem _ h)
  have hown : s.vm.findClass RX2 = some m.cls := hown
  have hl : lv_has ls 7 [(0, .ref qv), (1, .int p1), (2, .int p2), (3, .int p3), (4, .int p4)] := hl
  unfold f_X2_takePair at h
  have w98 : ∀  (x5 : Int32) (x6 : Int32) (v_joined : Int32) (v_arrived : Int32) (v_lostInVain : Int32) (v_costs : Int32) (v_trueLengths : Int32) (v_longestList : Int32) (v_longestListArrived : Int32) (v_mostSteps : Int32) (v_dearer : Int32) (t_steps : Int32) (t_cost : Int32) (t_cause : Int32) (t_place : Int32) (t_computed : Int32) (t_list : Int32) (t_listed : Int32) (t_visited : (Nat → Int32)) (t_metLow : (Nat → Int32)) (t_metHigh : (Nat → Int32)) (y_far : (Nat → Int32)) (y_usable : Int32) (n_nodes : Int32) (n_links : Int32) (n_alive : Int32) (n_inMap : Int32) (n_low : (Nat → Int32)) (n_high : (Nat → Int32)) (n_length : (Nat → Int32)) (H : Heap) (locs : List Loc) (ls : Array Slot), va_P D vwCl [(qv, .inr (2, [.ref qn, .ref qy, .ref qt, .int v_joined, .int v_arrived, .int v_lostInVain, .int v_costs, .int v_trueLengths, .int v_longestList, .int v_longestListArrived, .int v_mostSteps, .int v_dearer])), (qt, .inr (0, [.ref qn, .ref qy, .int t_steps, .int t_cost, .int t_cause, .int t_place, .int t_computed, .int t_list, .int t_listed, .ref qt_visited, .ref qt_metLow, .ref qt_metHigh])), (qt_visited, .inl (cI, 41, .inl t_visited)), (qt_metLow, .inl (cI, 18, .inl t_metLow)), (qt_metHigh, .inl (cI, 18, .inl t_metHigh)), (qy, .inr (4, [.ref qn, .ref qy_far, .int y_usable])), (qy_far, .inl (cI, 9, .inl y_far)), (qn, .inr (1, [.int n_nodes, .int n_links, .int n_room, .int n_alive, .int n_inMap, .ref qn_low, .ref qn_high, .ref qn_length])), (qn_low, .inl (cI, 18, .inl n_low)), (qn_high, .inl (cI, 18, .inl n_high)), (qn_length, .inl (cI, 18, .inl n_length))] H → va_D A [(qv, .inr (2, [.ref qn, .ref qy, .ref qt, .int v_joined, .int v_arrived, .int v_lostInVain, .int v_costs, .int v_trueLengths, .int v_longestList, .int v_longestListArrived, .int v_mostSteps, .int v_dearer])), (qt, .inr (0, [.ref qn, .ref qy, .int t_steps, .int t_cost, .int t_cause, .int t_place, .int t_computed, .int t_list, .int t_listed, .ref qt_visited, .ref qt_metLow, .ref qt_metHigh])), (qt_visited, .inl (cI, 41, .inl t_visited)), (qt_metLow, .inl (cI, 18, .inl t_metLow)), (qt_metHigh, .inl (cI, 18, .inl t_metHigh)), (qy, .inr (4, [.ref qn, .ref qy_far, .int y_usable])), (qy_far, .inl (cI, 9, .inl y_far)), (qn, .inr (1, [.int n_nodes, .int n_links, .int n_room, .int n_alive, .int n_inMap, .ref qn_low, .ref qn_high, .ref qn_length])), (qn_low, .inl (cI, 18, .inl n_low)), (qn_high, .inl (cI, 18, .inl n_high)), (qn_length, .inl (cI, 18, .inl n_length))] → va_S A s.heap H locs → lv_has ls 7 [(0, .ref qv), (5, .int x5), (6, .int x6)] → f_X2_takePair_b98 x5 x6 v_joined v_arrived v_lostInVain v_costs v_trueLengths v_longestList v_longestListArrived v_mostSteps v_dearer t_steps t_cost t_cause t_place t_computed t_list t_listed t_visited t_metLow t_metHigh y_far y_usable n_nodes n_links n_alive n_inMap n_low n_high n_length = some (z_v_joined, z_v_arrived, z_v_lostInVain, z_v_costs, z_v_trueLengths, z_v_longestList, z_v_longestListArrived, z_v_mostSteps, z_v_dearer, z_t_steps, z_t_cost, z_t_cause, z_t_place, z_t_computed, z_t_list, z_t_listed, z_t_visited, z_t_metLow, z_t_metHigh, z_y_far, z_y_usable) → W p l e { frames := 4, cells := 0, slots := 0, locals := 97 } s m ([.ref qv, .int p1, .int p2, .int p3, .int p4] : List Value).toArray below meth c H locs 0 0 (MQ below (k_QV D [(qv, .inr (2, [.ref qn, .ref qy, .ref qt, .int z_v_joined, .int z_v_arrived, .int z_v_lostInVain, .int z_v_costs, .int z_v_trueLengths, .int z_v_longestList, .int z_v_longestListArrived, .int z_v_mostSteps, .int z_v_dearer])), (qt, .inr (0, [.ref qn, .ref qy, .int z_t_steps, .int z_t_cost, .int z_t_cause, .int z_t_place, .int z_t_computed, .int z_t_list, .int z_t_listed, .ref qt_visited, .ref qt_metLow, .ref qt_metHigh])), (qt_visited, .inl (cI, 41, .inl z_t_visited)), (qt_metLow, .inl (cI, 18, .inl z_t_metLow)), (qt_metHigh, .inl (cI, 18, .inl z_t_metHigh)), (qy, .inr (4, [.ref qn, .ref qy_far, .int z_y_usable])), (qy_far, .inl (cI, 9, .inl z_y_far)), (qn, .inr (1, [.int n_nodes, .int n_links, .int n_room, .int n_alive, .int n_inMap, .ref qn_low, .ref qn_high, .ref qn_length])), (qn_low, .inl (cI, 18, .inl n_low)), (qn_high, .inl (cI, 18, .inl n_high)), (qn_length, .inl (cI, 18, .inl n_length))] A) ([.ref qv, .int p1, .int p2, .int p3, .int p4] : List Value).toArray s 0 0 A) (F0 m 98 ls []) := by
    intro x5 x6 v_joined v_arrived v_lostInVain v_costs v_trueLengths v_longestList v_longestListArrived v_mostSteps v_dearer t_steps t_cost t_cause t_place t_computed t_list t_listed t_visited t_metLow t_metHigh y_far y_usable n_nodes n_links n_alive n_inMap n_low n_high n_length H locs ls hP hD hS hl h
    unfold f_X2_takePair_b98 at h
    refine lv_aload_n hx hb dX2_takePair_98 rfl (lv_at hl 0 rfl) ?_
    refine va_get (D := D) (ci := 2) (v := .ref qt) (C := RX2) (T := TX2) (N := 12) hx hb hu k_iX2 hown hK hP 0 rfl rfl 2 (by decide) (hu _ u_203) (fun _ h9 => h9) rfl dX2_takePair_99 ?_
    refine k_callVIr (qb := 0) [1] (As := []) (rest := []) ⟨hx, hb, hml, hown, hts⟩ hT hZ hA hP hD hS (c_X0_hasArrived l D cI cZ cN aK aV qt qt_visited qt_metLow qt_metHigh qy qn t_steps t_cost t_cause t_place t_computed t_list t_listed _ rfl) ⟨callB_of 0 hts (k_good u_535) rfl rfl rfl (hu _ u_48) (hu _ u_569) (by decide +kernel) ⟨Nat.le_of_ble_eq_true rfl, Nat.le_of_ble_eq_true rfl⟩, hu _ u_533, hu _ u_534⟩ rfl rfl rfl (by decide) rfl hl.1 rfl (Nat.le_of_ble_eq_true rfl) dX2_takePair_102 (fun H locs hP hD hS => ?_)
    refine lv_if_eq (tgt := 117) hx hb dX2_takePair_105 (by decide) (fun cc_22 => ?_) (fun cc_22 => ?_)
    · have h := (if_pos cc_22).symm.trans h
      refine lv_iload hx hb dX2_takePair_117 (lv_at hl 1 rfl) ?_
      refine lv_if_eq (tgt := 132) hx hb dX2_takePair_119 (by decide) (fun cc_23 => ?_) (fun cc_23 => ?_)
      · have h := (if_pos cc_23).symm.trans h
        have hq := Option.some.inj h
        clear h
        obtain ⟨e0, hq0⟩ := Prod.mk.inj hq
        clear hq
        obtain ⟨e1, hq1⟩ := Prod.mk.inj hq0
        clear hq0
        obtain ⟨e2, hq2⟩ := Prod.mk.inj hq1
        clear hq1
        obtain ⟨e3, hq3⟩ := Prod.mk.inj hq2
        clear hq2
        obtain ⟨e4, hq4⟩ := Prod.mk.inj hq3
        clear hq3
        obtain ⟨e5, hq5⟩ := Prod.mk.inj hq4
        clear hq4
        obtain ⟨e6, hq6⟩ := Prod.mk.inj hq5
        clear hq5
        obtain ⟨e7, hq7⟩ := Prod.mk.inj hq6
        clear hq6
        obtain ⟨e8, hq8⟩ := Prod.mk.inj hq7
        clear hq7
        obtain ⟨e9, hq9⟩ := Prod.mk.inj hq8
        clear hq8
        obtain ⟨e10, hq10⟩ := Prod.mk.inj hq9
        clear hq9
        obtain ⟨e11, hq11⟩ := Prod.mk.inj hq10
        clear hq10
        obtain ⟨e12, hq12⟩ := Prod.mk.inj hq11
        clear hq11
        obtain ⟨e13, hq13⟩ := Prod.mk.inj hq12
        clear hq12
        obtain ⟨e14, hq14⟩ := Prod.mk.inj hq13
        clear hq13
        obtain ⟨e15, hq15⟩ := Prod.mk.inj hq14
        clear hq14
        obtain ⟨e16, hq16⟩ := Prod.mk.inj hq15
        clear hq15
        obtain ⟨e17, hq17⟩ := Prod.mk.inj hq16
        clear hq16
        obtain ⟨e18, hq18⟩ := Prod.mk.inj hq17
        clear hq17
        obtain ⟨e19, hq19⟩ := Prod.mk.inj hq18
        clear hq18
        subst e0
        subst e1
        subst e2
        subst e3
        subst e4
        subst e5
        subst e6
        subst e7
        subst e8
        subst e9
        subst e10
        subst e11
        subst e12
        subst e13
        subst e14
        subst e15
        subst e16
        subst e17
        subst e18
        subst e19
        subst hq19
        exact k_retV hx hb hr hlocks hP hD hS dX2_takePair_132
      · have h := (if_neg cc_23).symm.trans h
        refine lv_aload_n hx hb dX2_takePair_122 rfl (lv_at hl 0 rfl) ?_
        refine lv_dup hx hb dX2_takePair_123 rfl ?_
        refine va_get (D := D) (ci := 2) (v := .int v_lostInVain) (C := RX2) (T := TX2) (N := 12) hx hb hu k_iX2 hown hK hP 0 rfl rfl 5 (by decide) (hu _ u_208) (fun _ h9 => h9) rfl dX2_takePair_124 ?_
        refine lv_iconst (v := (1 : Int32)) hx hb dX2_takePair_127 (by decide) ?_
        refine lv_iadd hx hb dX2_takePair_128 ?_
        refine va_put (D := D) (ci := 2) (v := .int (v_lostInVain + (1 : Int32))) (ty := .int) (C := RX2) (T := TX2) (N := 12) hx hb hu k_iX2 tyX2 tyX2_ok nmX2 hown hK hP hD hS 0 rfl rfl 5 (by decide) (hu _ u_208) (fun _ h9 => h9) rfl (by decide +kernel) rfl rfl (Nat.le_of_ble_eq_true rfl) dX2_takePair_129 (fun H locs hP hD hS => ?_)
        have hP : va_P D vwCl [(qv, .inr (2, [.ref qn, .ref qy, .ref qt, .int v_joined, .int v_arrived, .int (v_lostInVain + (1 : Int32)), .int v_costs, .int v_trueLengths, .int v_longestList, .int v_longestListArrived, .int v_mostSteps, .int v_dearer])), (qt, .inr (0, [.ref qn, .ref qy, .int t_steps, .int t_cost, .int t_cause, .int t_place, .int t_computed, .int t_list, .int t_listed, .ref qt_visited, .ref qt_metLow, .ref qt_metHigh])), (qt_visited, .inl (cI, 41, .inl t_visited)), (qt_metLow, .inl (cI, 18, .inl t_metLow)), (qt_metHigh, .inl (cI, 18, .inl t_metHigh)), (qy, .inr (4, [.ref qn, .ref qy_far, .int y_usable])), (qy_far, .inl (cI, 9, .inl y_far)), (qn, .inr (1, [.int n_nodes, .int n_links, .int n_room, .int n_alive, .int n_inMap, .ref qn_low, .ref qn_high, .ref qn_length])), (qn_low, .inl (cI, 18, .inl n_low)), (qn_high, .inl (cI, 18, .inl n_high)), (qn_length, .inl (cI, 18, .inl n_length))] H := hP
        have hD : va_D A [(qv, .inr (2, [.ref qn, .ref qy, .ref qt, .int v_joined, .int v_arrived, .int (v_lostInVain + (1 : Int32)), .int v_costs, .int v_trueLengths, .int v_longestList, .int v_longestListArrived, .int v_mostSteps, .int v_dearer])), (qt, .inr (0, [.ref qn, .ref qy, .int t_steps, .int t_cost, .int t_cause, .int t_place, .int t_computed, .int t_list, .int t_listed, .ref qt_visited, .ref qt_metLow, .ref qt_metHigh])), (qt_visited, .inl (cI, 41, .inl t_visited)), (qt_metLow, .inl (cI, 18, .inl t_metLow)), (qt_metHigh, .inl (cI, 18, .inl t_metHigh)), (qy, .inr (4, [.ref qn, .ref qy_far, .int y_usable])), (qy_far, .inl (cI, 9, .inl y_far)), (qn, .inr (1, [.int n_nodes, .int n_links, .int n_room, .int n_alive, .int n_inMap, .ref qn_low, .ref qn_high, .ref qn_length])), (qn_low, .inl (cI, 18, .inl n_low)), (qn_high, .inl (cI, 18, .inl n_high)), (qn_length, .inl (cI, 18, .inl n_length))] := hD
        have hq := Option.some.inj h
        clear h
        obtain ⟨e0, hq0⟩ := Prod.mk.inj hq
        clear hq
        obtain ⟨e1, hq1⟩ := Prod.mk.inj hq0
        clear hq0
        obtain ⟨e2, hq2⟩ := Prod.mk.inj hq1
        clear hq1
        obtain ⟨e3, hq3⟩ := Prod.mk.inj hq2
        clear hq2
        obtain ⟨e4, hq4⟩ := Prod.mk.inj hq3
        clear hq3
        obtain ⟨e5, hq5⟩ := Prod.mk.inj hq4
        clear hq4
        obtain ⟨e6, hq6⟩ := Prod.mk.inj hq5
        clear hq5
        obtain ⟨e7, hq7⟩ := Prod.mk.inj hq6
        clear hq6
        obtain ⟨e8, hq8⟩ := Prod.mk.inj hq7
        clear hq7
        obtain ⟨e9, hq9⟩ := Prod.mk.inj hq8
        clear hq8
        obtain ⟨e10, hq10⟩ := Prod.mk.inj hq9
        clear hq9
        obtain ⟨e11, hq11⟩ := Prod.mk.inj hq10
        clear hq10
        obtain ⟨e12, hq12⟩ := Prod.mk.inj hq11
        clear hq11
        obtain ⟨e13, hq13⟩ := Prod.mk.inj hq12
        clear hq12
        obtain ⟨e14, hq14⟩ := Prod.mk.inj hq13
        clear hq13
        obtain ⟨e15, hq15⟩ := Prod.mk.inj hq14
        clear hq14
        obtain ⟨e16, hq16⟩ := Prod.mk.inj hq15
        clear hq15
        obtain ⟨e17, hq17⟩ := Prod.mk.inj hq16
        clear hq16
        obtain ⟨e18, hq18⟩ := Prod.mk.inj hq17
        clear hq17
        obtain ⟨e19, hq19⟩ := Prod.mk.inj hq18
        clear hq18
        subst e0
        subst e1
        subst e2
        subst e3
        subst e4
        subst e5
        subst e6
        subst e7
        subst e8
        subst e9
        subst e10
        subst e11
        subst e12
        subst e13
        subst e14
        subst e15
        subst e16
        subst e17
        subst e18
        subst e19
        subst hq19
        exact k_retV hx hb hr hlocks hP hD hS dX2_takePair_132
    · have h := (if_neg cc_22).symm.trans h
      refine lv_aload_n hx hb dX2_takePair_108 rfl (lv_at hl 0 rfl) ?_
      refine lv_iload hx hb dX2_takePair_109 (lv_at hl 2 rfl) ?_
      refine k_callVV (qb := 0) [0, 1] [0] [0] [(qv, .inr (2, [.ref qn, .ref qy, .ref qt, .int v_joined, .int ((f_X2_countArrived x6 v_arrived v_costs v_trueLengths v_longestListArrived v_dearer t_cost t_listed).1), .int v_lostInVain, .int ((f_X2_countArrived x6 v_arrived v_costs v_trueLengths v_longestListArrived v_dearer t_cost t_listed).2.1), .int ((f_X2_countArrived x6 v_arrived v_costs v_trueLengths v_longestListArrived v_dearer t_cost t_listed).2.2.1), .int v_longestList, .int ((f_X2_countArrived x6 v_arrived v_costs v_trueLengths v_longestListArrived v_dearer t_cost t_listed).2.2.2.1), .int v_mostSteps, .int ((f_X2_countArrived x6 v_arrived v_costs v_trueLengths v_longestListArrived v_dearer t_cost t_listed).2.2.2.2)]))] (As := [.int x6]) (rest := []) ⟨hx, hb, hml, hown, hts⟩ hT hZ hA hP hD hS (c_X2_countArrived l D cI cZ cN aK aV qv qt qt_visited qt_metLow qt_metHigh qy qn v_joined v_arrived v_lostInVain v_costs v_trueLengths v_longestList v_longestListArrived v_mostSteps v_dearer t_steps t_cost t_cause t_place t_computed t_list t_listed x6 _ _ _ _ _ rfl) ⟨callB_of 1 hts (k_good u_573) rfl rfl rfl (hu _ u_49) (hu _ u_570) (by decide +kernel) ⟨Nat.le_of_ble_eq_true rfl, Nat.le_of_ble_eq_true rfl⟩, hu _ u_572, hu _ u_10⟩ rfl rfl rfl (by decide) (by decide) (by decide) rfl rfl rfl rfl hl.1 rfl (Nat.le_of_ble_eq_true rfl) dX2_takePair_111 (fun H locs hP hD hS => ?_)
      have hP : va_P D vwCl [(qv, .inr (2, [.ref qn, .ref qy, .ref qt, .int v_joined, .int ((f_X2_countArrived x6 v_arrived v_costs v_trueLengths v_longestListArrived v_dearer t_cost t_listed).1), .int v_lostInVain, .int ((f_X2_countArrived x6 v_arrived v_costs v_trueLengths v_longestListArrived v_dearer t_cost t_listed).2.1), .int ((f_X2_countArrived x6 v_arrived v_costs v_trueLengths v_longestListArrived v_dearer t_cost t_listed).2.2.1), .int v_longestList, .int ((f_X2_countArrived x6 v_arrived v_costs v_trueLengths v_longestListArrived v_dearer t_cost t_listed).2.2.2.1), .int v_mostSteps, .int ((f_X2_countArrived x6 v_arrived v_costs v_trueLengths v_longestListArrived v_dearer t_cost t_listed).2.2.2.2)])), (qt, .inr (0, [.ref qn, .ref qy, .int t_steps, .int t_cost, .int t_cause, .int t_place, .int t_computed, .int t_list, .int t_listed, .ref qt_visited, .ref qt_metLow, .ref qt_metHigh])), (qt_visited, .inl (cI, 41, .inl t_visited)), (qt_metLow, .inl (cI, 18, .inl t_metLow)), (qt_metHigh, .inl (cI, 18, .inl t_metHigh)), (qy, .inr (4, [.ref qn, .ref qy_far, .int y_usable])), (qy_far, .inl (cI, 9, .inl y_far)), (qn, .inr (1, [.int n_nodes, .int n_links, .int n_room, .int n_alive, .int n_inMap, .ref qn_low, .ref qn_high, .ref qn_length])), (qn_low, .inl (cI, 18, .inl n_low)), (qn_high, .inl (cI, 18, .inl n_high)), (qn_length, .inl (cI, 18, .inl n_length))] H := hP
      have hD : va_D A [(qv, .inr (2, [.ref qn, .ref qy, .ref qt, .int v_joined, .int ((f_X2_countArrived x6 v_arrived v_costs v_trueLengths v_longestListArrived v_dearer t_cost t_listed).1), .int v_lostInVain, .int ((f_X2_countArrived x6 v_arrived v_costs v_trueLengths v_longestListArrived v_dearer t_cost t_listed).2.1), .int ((f_X2_countArrived x6 v_arrived v_costs v_trueLengths v_longestListArrived v_dearer t_cost t_listed).2.2.1), .int v_longestList, .int ((f_X2_countArrived x6 v_arrived v_costs v_trueLengths v_longestListArrived v_dearer t_cost t_listed).2.2.2.1), .int v_mostSteps, .int ((f_X2_countArrived x6 v_arrived v_costs v_trueLengths v_longestListArrived v_dearer t_cost t_listed).2.2.2.2)])), (qt, .inr (0, [.ref qn, .ref qy, .int t_steps, .int t_cost, .int t_cause, .int t_place, .int t_computed, .int t_list, .int t_listed, .ref qt_visited, .ref qt_metLow, .ref qt_metHigh])), (qt_visited, .inl (cI, 41, .inl t_visited)), (qt_metLow, .inl (cI, 18, .inl t_metLow)), (qt_metHigh, .inl (cI, 18, .inl t_metHigh)), (qy, .inr (4, [.ref qn, .ref qy_far, .int y_usable])), (qy_far, .inl (cI, 9, .inl y_far)), (qn, .inr (1, [.int n_nodes, .int n_links, .int n_room, .int n_alive, .int n_inMap, .ref qn_low, .ref qn_high, .ref qn_length])), (qn_low, .inl (cI, 18, .inl n_low)), (qn_high, .inl (cI, 18, .inl n_high)), (qn_length, .inl (cI, 18, .inl n_length))] := hD
      refine lv_goto (tgt := 132) hx hb dX2_takePair_114 (by decide) ?_
      have hq := Option.some.inj h
      clear h
      obtain ⟨e0, hq0⟩ := Prod.mk.inj hq
      clear hq
      obtain ⟨e1, hq1⟩ := Prod.mk.inj hq0
      clear hq0
      obtain ⟨e2, hq2⟩ := Prod.mk.inj hq1
      clear hq1
      obtain ⟨e3, hq3⟩ := Prod.mk.inj hq2
      clear hq2
      obtain ⟨e4, hq4⟩ := Prod.mk.inj hq3
      clear hq3
      obtain ⟨e5, hq5⟩ := Prod.mk.inj hq4
      clear hq4
      obtain ⟨e6, hq6⟩ := Prod.mk.inj hq5
      clear hq5
      obtain ⟨e7, hq7⟩ := Prod.mk.inj hq6
      clear hq6
      obtain ⟨e8, hq8⟩ := Prod.mk.inj hq7
      clear hq7
      obtain ⟨e9, hq9⟩ := Prod.mk.inj hq8
      clear hq8
      obtain ⟨e10, hq10⟩ := Prod.mk.inj hq9
      clear hq9
      obtain ⟨e11, hq11⟩ := Prod.mk.inj hq10
      clear hq10
      obtain ⟨e12, hq12⟩ := Prod.mk.inj hq11
      clear hq11
      obtain ⟨e13, hq13⟩ := Prod.mk.inj hq12
      clear hq12
      obtain ⟨e14, hq14⟩ := Prod.mk.inj hq13
      clear hq13
      obtain ⟨e15, hq15⟩ := Prod.mk.inj hq14
      clear hq14
      obtain ⟨e16, hq16⟩ := Prod.mk.inj hq15
      clear hq15
      obtain ⟨e17, hq17⟩ := Prod.mk.inj hq16
      clear hq16
      obtain ⟨e18, hq18⟩ := Prod.mk.inj hq17
      clear hq17
      obtain ⟨e19, hq19⟩ := Prod.mk.inj hq18
      clear hq18
      subst e0
      subst e1
      subst e2
      subst e3
      subst e4
      subst e5
      subst e6
      subst e7
      subst e8
      subst e9
      subst e10
      subst e11
      subst e12
      subst e13
      subst e14
      subst e15
      subst e16
      subst e17
      subst e18
      subst e19
      subst hq19
      exact k_retV hx hb hr hlocks hP hD hS dX2_takePair_132
  refine lv_aload_n hx hb dX2_takePair_0 rfl (lv_at hl 0 rfl) ?_
  refine va_get (D := D) (ci := 2) (v := .ref qy) (C := RX2) (T := TX2) (N := 12) hx hb hu k_iX2 hown hK hP 0 rfl rfl 1 (by decide) (hu _ u_202) (fun _ h9 => h9) rfl dX2_takePair_1 ?_
  refine lv_aload_n hx hb dX2_takePair_4 rfl (lv_at hl 0 rfl) ?_
  refine va_get (D := D) (ci := 2) (v := .ref qn) (C := RX2) (T := TX2) (N := 12) hx hb hu k_iX2 hown hK hP 0 rfl rfl 0 (by decide) (hu _ u_201) (fun _ h9 => h9) rfl dX2_takePair_5 ?_
  refine va_get (D := D) (ci := 1) (v := .int n_alive) (C := RX1) (T := TX1) (N := 8) hx hb hu k_iX1 hown hK hP 7 rfl rfl 3 (by decide) (hu _ u_83) (fun _ h9 => h9) rfl dX2_takePair_8 ?_
  refine lv_iload_n hx hb dX2_takePair_11 rfl (lv_at hl 2 rfl) ?_
  obtain ⟨⟨o_1, o_2⟩, hc_3, h⟩ := ob_bind h
  dsimp only at h
  refine k_callVV (qb := 0) [5, 6, 7, 8, 9, 10] [0, 1] [5, 6] [(qy, .inr (4, [.ref qn, .ref qy_far, .int o_2])), (qy_far, .inl (cI, 9, .inl o_1))] (As := [.int n_alive, .int p2]) (rest := []) ⟨hx, hb, hml, hown, hts⟩ hT hZ hA hP hD hS (c_X4_measure l D cI cZ cN aK aV qy qy_far qn qn_low qn_high qn_length y_far y_usable n_nodes n_links n_room n_alive n_inMap n_low n_high n_length n_alive p2 o_1 o_2 hc_3) ⟨callB_of 2 hts (k_good u_460) rfl rfl rfl (hu _ u_47) (hu _ u_564) (by decide +kernel) ⟨Nat.le_of_ble_eq_true rfl, Nat.le_of_ble_eq_true rfl⟩, hu _ u_458, hu _ u_459⟩ rfl rfl rfl (by decide) (by decide) (by decide) rfl rfl rfl rfl hl.1 rfl (Nat.le_of_ble_eq_true rfl) dX2_takePair_12 (fun H locs hP hD hS => ?_)
  have hP : va_P D vwCl [(qv, .inr (2, [.ref qn, .ref qy, .ref qt, .int v_joined, .int v_arrived, .int v_lostInVain, .int v_costs, .int v_trueLengths, .int v_longestList, .int v_longestListArrived, .int v_mostSteps, .int v_dearer])), (qt, .inr (0, [.ref qn, .ref qy, .int t_steps, .int t_cost, .int t_cause, .int t_place, .int t_computed, .int t_list, .int t_listed, .ref qt_visited, .ref qt_metLow, .ref qt_metHigh])), (qt_visited, .inl (cI, 41, .inl t_visited)), (qt_metLow, .inl (cI, 18, .inl t_metLow)), (qt_metHigh, .inl (cI, 18, .inl t_metHigh)), (qy, .inr (4, [.ref qn, .ref qy_far, .int o_2])), (qy_far, .inl (cI, 9, .inl o_1)), (qn, .inr (1, [.int n_nodes, .int n_links, .int n_room, .int n_alive, .int n_inMap, .ref qn_low, .ref qn_high, .ref qn_length])), (qn_low, .inl (cI, 18, .inl n_low)), (qn_high, .inl (cI, 18, .inl n_high)), (qn_length, .inl (cI, 18, .inl n_length))] H := hP
  have hD : va_D A [(qv, .inr (2, [.ref qn, .ref qy, .ref qt, .int v_joined, .int v_arrived, .int v_lostInVain, .int v_costs, .int v_trueLengths, .int v_longestList, .int v_longestListArrived, .int v_mostSteps, .int v_dearer])), (qt, .inr (0, [.ref qn, .ref qy, .int t_steps, .int t_cost, .int t_cause, .int t_place, .int t_computed, .int t_list, .int t_listed, .ref qt_visited, .ref qt_metLow, .ref qt_metHigh])), (qt_visited, .inl (cI, 41, .inl t_visited)), (qt_metLow, .inl (cI, 18, .inl t_metLow)), (qt_metHigh, .inl (cI, 18, .inl t_metHigh)), (qy, .inr (4, [.ref qn, .ref qy_far, .int o_2])), (qy_far, .inl (cI, 9, .inl o_1)), (qn, .inr (1, [.int n_nodes, .int n_links, .int n_room, .int n_alive, .int n_inMap, .ref qn_low, .ref qn_high, .ref qn_length])), (qn_low, .inl (cI, 18, .inl n_low)), (qn_high, .inl (cI, 18, .inl n_high)), (qn_length, .inl (cI, 18, .inl n_length))] := hD
  refine lv_aload_n hx hb dX2_takePair_15 rfl (lv_at hl 0 rfl) ?_
  refine va_get (D := D) (ci := 2) (v := .ref qy) (C := RX2) (T := TX2) (N := 12) hx hb hu k_iX2 hown hK hP 0 rfl rfl 1 (by decide) (hu _ u_202) (fun _ h9 => h9) rfl dX2_takePair_16 ?_
  refine lv_iload_n hx hb dX2_takePair_19 rfl (lv_at hl 1 rfl) ?_
  obtain ⟨r_4, hc_5, h⟩ := ob_bind h
  refine k_callVIr (qb := 0) [5, 6] (As := [.int p1]) (rest := []) ⟨hx, hb, hml, hown, hts⟩ hT hZ hA hP hD hS (c_X4_leadsFrom l D cI cZ cN aK aV qy qy_far qn o_1 o_2 p1 r_4 hc_5) ⟨callB_of 1 hts (k_good u_477) rfl rfl rfl (hu _ u_47) (hu _ u_565) (by decide +kernel) ⟨Nat.le_of_ble_eq_true rfl, Nat.le_of_ble_eq_true rfl⟩, hu _ u_475, hu _ u_476⟩ rfl rfl rfl (by decide) rfl hl.1 rfl (Nat.le_of_ble_eq_true rfl) dX2_takePair_20 (fun H locs hP hD hS => ?_)
  refine lv_istore (lv' := [(5, .int r_4), (0, .ref qv), (1, .int p1), (2, .int p2), (3, .int p3), (4, .int p4)]) hx hb dX2_takePair_23 hl (by decide) rfl (fun ls hl => ?_)
  refine lv_aload_n hx hb dX2_takePair_25 rfl (lv_at hl 1 rfl) ?_
  refine va_get (D := D) (ci := 2) (v := .ref qy) (C := RX2) (T := TX2) (N := 12) hx hb hu k_iX2 hown hK hP 0 rfl rfl 1 (by decide) (hu _ u_202) (fun _ h9 => h9) rfl dX2_takePair_26 ?_
  refine lv_iload_n hx hb dX2_takePair_29 rfl (lv_at hl 2 rfl) ?_
  obtain ⟨r_6, hc_7, h⟩ := ob_bind h
  refine k_callVIr (qb := 0) [5, 6] (As := [.int p1]) (rest := []) ⟨hx, hb, hml, hown, hts⟩ hT hZ hA hP hD hS (c_X4_lengthFrom l D cI cZ cN aK aV qy qy_far qn o_1 o_2 p1 r_6 hc_7) ⟨callB_of 1 hts (k_good u_485) rfl rfl rfl (hu _ u_47) (hu _ u_566) (by decide +kernel) ⟨Nat.le_of_ble_eq_true rfl, Nat.le_of_ble_eq_true rfl⟩, hu _ u_483, hu _ u_484⟩ rfl rfl rfl (by decide) rfl hl.1 rfl (Nat.le_of_ble_eq_true rfl) dX2_takePair_30 (fun H locs hP hD hS => ?_)
  refine lv_istore (lv' := [(6, .int r_6), (5, .int r_4), (0, .ref qv), (1, .int p1), (2, .int p2), (3, .int p3), (4, .int p4)]) hx hb dX2_takePair_33 hl (by decide) rfl (fun ls hl => ?_)
  refine lv_aload_n hx hb dX2_takePair_35 rfl (lv_at hl 2 rfl) ?_
  refine va_get (D := D) (ci := 2) (v := .ref qt) (C := RX2) (T := TX2) (N := 12) hx hb hu k_iX2 hown hK hP 0 rfl rfl 2 (by decide) (hu _ u_203) (fun _ h9 => h9) rfl dX2_takePair_36 ?_
  refine lv_iload_n hx hb dX2_takePair_39 rfl (lv_at hl 3 rfl) ?_
  refine lv_iload_n hx hb dX2_takePair_40 rfl (lv_at hl 4 rfl) ?_
  refine lv_iload_n hx hb dX2_takePair_41 rfl (lv_at hl 5 rfl) ?_
  refine lv_iload hx hb dX2_takePair_42 (lv_at hl 6 rfl) ?_
  obtain ⟨⟨o_8, o_9, o_10, o_11, o_12, o_13, o_14, o_15, o_16, o_17, o_18, o_19⟩, hc_20, h⟩ := ob_bind h
  dsimp only at h
  refine k_callVV (qb := 0) [1, 2, 3, 4, 5, 6, 7, 8, 9, 10] [0, 1, 2, 3, 4, 5] [1, 2, 3, 4, 5, 6] [(qt, .inr (0, [.ref qn, .ref qy, .int o_8, .int o_9, .int o_10, .int o_11, .int o_12, .int o_13, .int o_14, .ref qt_visited, .ref qt_metLow, .ref qt_metHigh])), (qt_visited, .inl (cI, 41, .inl o_15)), (qt_metLow, .inl (cI, 18, .inl o_16)), (qt_metHigh, .inl (cI, 18, .inl o_17)), (qy, .inr (4, [.ref qn, .ref qy_far, .int o_19])), (qy_far, .inl (cI, 9, .inl o_18))] (As := [.int p1, .int p2, .int p3, .int p4]) (rest := []) ⟨hx, hb, hml, hown, hts⟩ hT hZ hA hP hD hS (c_X0_travel l D cI cZ cN aK aV qt qt_visited qt_metLow qt_metHigh qy qy_far qn qn_low qn_high qn_length t_steps t_cost t_cause t_place t_computed t_list t_listed t_visited t_metLow t_metHigh o_1 o_2 n_nodes n_links n_room n_alive n_inMap n_low n_high n_length p1 p2 p3 p4 o_8 o_9 o_10 o_11 o_12 o_13 o_14 o_15 o_16 o_17 o_18 o_19 hc_20) ⟨callB_of 4 hts (k_good u_505) rfl rfl rfl (hu _ u_48) (hu _ u_567) (by decide +kernel) ⟨Nat.le_of_ble_eq_true rfl, Nat.le_of_ble_eq_true rfl⟩, hu _ u_503, hu _ u_504⟩ rfl rfl rfl (by decide) (by decide) (by decide) rfl rfl rfl rfl hl.1 rfl (Nat.le_of_ble_eq_true rfl) dX2_takePair_44 (fun H locs hP hD hS => ?_)
  have hP : va_P D vwCl [(qv, .inr (2, [.ref qn, .ref qy, .ref qt, .int v_joined, .int v_arrived, .int v_lostInVain, .int v_costs, .int v_trueLengths, .int v_longestList, .int v_longestListArrived, .int v_mostSteps, .int v_dearer])), (qt, .inr (0, [.ref qn, .ref qy, .int o_8, .int o_9, .int o_10, .int o_11, .int o_12, .int o_13, .int o_14, .ref qt_visited, .ref qt_metLow, .ref qt_metHigh])), (qt_visited, .inl (cI, 41, .inl o_15)), (qt_metLow, .inl (cI, 18, .inl o_16)), (qt_metHigh, .inl (cI, 18, .inl o_17)), (qy, .inr (4, [.ref qn, .ref qy_far, .int o_19])), (qy_far, .inl (cI, 9, .inl o_18)), (qn, .inr (1, [.int n_nodes, .int n_links, .int n_room, .int n_alive, .int n_inMap, .ref qn_low, .ref qn_high, .ref qn_length])), (qn_low, .inl (cI, 18, .inl n_low)), (qn_high, .inl (cI, 18, .inl n_high)), (qn_length, .inl (cI, 18, .inl n_length))] H := hP
  have hD : va_D A [(qv, .inr (2, [.ref qn, .ref qy, .ref qt, .int v_joined, .int v_arrived, .int v_lostInVain, .int v_costs, .int v_trueLengths, .int v_longestList, .int v_longestListArrived, .int v_mostSteps, .int v_dearer])), (qt, .inr (0, [.ref qn, .ref qy, .int o_8, .int o_9, .int o_10, .int o_11, .int o_12, .int o_13, .int o_14, .ref qt_visited, .ref qt_metLow, .ref qt_metHigh])), (qt_visited, .inl (cI, 41, .inl o_15)), (qt_metLow, .inl (cI, 18, .inl o_16)), (qt_metHigh, .inl (cI, 18, .inl o_17)), (qy, .inr (4, [.ref qn, .ref qy_far, .int o_19])), (qy_far, .inl (cI, 9, .inl o_18)), (qn, .inr (1, [.int n_nodes, .int n_links, .int n_room, .int n_alive, .int n_inMap, .ref qn_low, .ref qn_high, .ref qn_length])), (qn_low, .inl (cI, 18, .inl n_low)), (qn_high, .inl (cI, 18, .inl n_high)), (qn_length, .inl (cI, 18, .inl n_length))] := hD
  refine lv_aload_n hx hb dX2_takePair_47 rfl (lv_at hl 2 rfl) ?_
  refine lv_aload_n hx hb dX2_takePair_48 rfl (lv_at hl 2 rfl) ?_
  refine va_get (D := D) (ci := 2) (v := .int v_longestList) (C := RX2) (T := TX2) (N := 12) hx hb hu k_iX2 hown hK hP 0 rfl rfl 8 (by decide) (hu _ u_214) (fun _ h9 => h9) rfl dX2_takePair_49 ?_
  refine lv_aload_n hx hb dX2_takePair_52 rfl (lv_at hl 2 rfl) ?_
  refine va_get (D := D) (ci := 2) (v := .ref qt) (C := RX2) (T := TX2) (N := 12) hx hb hu k_iX2 hown hK hP 0 rfl rfl 2 (by decide) (hu _ u_203) (fun _ h9 => h9) rfl dX2_takePair_53 ?_
  refine va_get (D := D) (ci := 0) (v := .int o_14) (C := RX0) (T := TX0) (N := 12) hx hb hu k_iX0 hown hK hP 1 rfl rfl 8 (by decide) (hu _ u_161) (fun _ h9 => h9) rfl dX2_takePair_56 ?_
  refine va_mmax hx hb (hml.trans hl.1.symm) hown (hu _ u_568) (hu _ u_360) (hu _ u_52) (hu _ u_361) (Nat.le_of_ble_eq_true rfl) (Nat.le_of_ble_eq_true rfl) (Nat.zero_le _) (Nat.zero_le _) dX2_takePair_59 ?_
  refine va_put (D := D) (ci := 2) (v := .int (if v_longestList < o_14 then o_14 else v_longestList)) (ty := .int) (C := RX2) (T := TX2) (N := 12) hx hb hu k_iX2 tyX2 tyX2_ok nmX2 hown hK hP hD hS 0 rfl rfl 8 (by decide) (hu _ u_214) (fun _ h9 => h9) rfl (by decide +kernel) rfl rfl (Nat.le_of_ble_eq_true rfl) dX2_takePair_62 (fun H locs hP hD hS => ?_)
  have hP : va_P D vwCl [(qv, .inr (2, [.ref qn, .ref qy, .ref qt, .int v_joined, .int v_arrived, .int v_lostInVain, .int v_costs, .int v_trueLengths, .int (if v_longestList < o_14 then o_14 else v_longestList), .int v_longestListArrived, .int v_mostSteps, .int v_dearer])), (qt, .inr (0, [.ref qn, .ref qy, .int o_8, .int o_9, .int o_10, .int o_11, .int o_12, .int o_13, .int o_14, .ref qt_visited, .ref qt_metLow, .ref qt_metHigh])), (qt_visited, .inl (cI, 41, .inl o_15)), (qt_metLow, .inl (cI, 18, .inl o_16)), (qt_metHigh, .inl (cI, 18, .inl o_17)), (qy, .inr (4, [.ref qn, .ref qy_far, .int o_19])), (qy_far, .inl (cI, 9, .inl o_18)), (qn, .inr (1, [.int n_nodes, .int n_links, .int n_room, .int n_alive, .int n_inMap, .ref qn_low, .ref qn_high, .ref qn_length])), (qn_low, .inl (cI, 18, .inl n_low)), (qn_high, .inl (cI, 18, .inl n_high)), (qn_length, .inl (cI, 18, .inl n_length))] H := hP
  have hD : va_D A [(qv, .inr (2, [.ref qn, .ref qy, .ref qt, .int v_joined, .int v_arrived, .int v_lostInVain, .int v_costs, .int v_trueLengths, .int (if v_longestList < o_14 then o_14 else v_longestList), .int v_longestListArrived, .int v_mostSteps, .int v_dearer])), (qt, .inr (0, [.ref qn, .ref qy, .int o_8, .int o_9, .int o_10, .int o_11, .int o_12, .int o_13, .int o_14, .ref qt_visited, .ref qt_metLow, .ref qt_metHigh])), (qt_visited, .inl (cI, 41, .inl o_15)), (qt_metLow, .inl (cI, 18, .inl o_16)), (qt_metHigh, .inl (cI, 18, .inl o_17)), (qy, .inr (4, [.ref qn, .ref qy_far, .int o_19])), (qy_far, .inl (cI, 9, .inl o_18)), (qn, .inr (1, [.int n_nodes, .int n_links, .int n_room, .int n_alive, .int n_inMap, .ref qn_low, .ref qn_high, .ref qn_length])), (qn_low, .inl (cI, 18, .inl n_low)), (qn_high, .inl (cI, 18, .inl n_high)), (qn_length, .inl (cI, 18, .inl n_length))] := hD
  refine lv_aload_n hx hb dX2_takePair_65 rfl (lv_at hl 2 rfl) ?_
  refine lv_aload_n hx hb dX2_takePair_66 rfl (lv_at hl 2 rfl) ?_
  refine va_get (D := D) (ci := 2) (v := .int v_mostSteps) (C := RX2) (T := TX2) (N := 12) hx hb hu k_iX2 hown hK hP 0 rfl rfl 10 (by decide) (hu _ u_218) (fun _ h9 => h9) rfl dX2_takePair_67 ?_
  refine lv_aload_n hx hb dX2_takePair_70 rfl (lv_at hl 2 rfl) ?_
  refine va_get (D := D) (ci := 2) (v := .ref qt) (C := RX2) (T := TX2) (N := 12) hx hb hu k_iX2 hown hK hP 0 rfl rfl 2 (by decide) (hu _ u_203) (fun _ h9 => h9) rfl dX2_takePair_71 ?_
  refine va_get (D := D) (ci := 0) (v := .int o_8) (C := RX0) (T := TX0) (N := 12) hx hb hu k_iX0 hown hK hP 1 rfl rfl 2 (by decide) (hu _ u_147) (fun _ h9 => h9) rfl dX2_takePair_74 ?_
  refine va_mmax hx hb (hml.trans hl.1.symm) hown (hu _ u_568) (hu _ u_360) (hu _ u_52) (hu _ u_361) (Nat.le_of_ble_eq_true rfl) (Nat.le_of_ble_eq_true rfl) (Nat.zero_le _) (Nat.zero_le _) dX2_takePair_77 ?_
  refine va_put (D := D) (ci := 2) (v := .int (if v_mostSteps < o_8 then o_8 else v_mostSteps)) (ty := .int) (C := RX2) (T := TX2) (N := 12) hx hb hu k_iX2 tyX2 tyX2_ok nmX2 hown hK hP hD hS 0 rfl rfl 10 (by decide) (hu _ u_218) (fun _ h9 => h9) rfl (by decide +kernel) rfl rfl (Nat.le_of_ble_eq_true rfl) dX2_takePair_80 (fun H locs hP hD hS => ?_)
  have hP : va_P D vwCl [(qv, .inr (2, [.ref qn, .ref qy, .ref qt, .int v_joined, .int v_arrived, .int v_lostInVain, .int v_costs, .int v_trueLengths, .int (if v_longestList < o_14 then o_14 else v_longestList), .int v_longestListArrived, .int (if v_mostSteps < o_8 then o_8 else v_mostSteps), .int v_dearer])), (qt, .inr (0, [.ref qn, .ref qy, .int o_8, .int o_9, .int o_10, .int o_11, .int o_12, .int o_13, .int o_14, .ref qt_visited, .ref qt_metLow, .ref qt_metHigh])), (qt_visited, .inl (cI, 41, .inl o_15)), (qt_metLow, .inl (cI, 18, .inl o_16)), (qt_metHigh, .inl (cI, 18, .inl o_17)), (qy, .inr (4, [.ref qn, .ref qy_far, .int o_19])), (qy_far, .inl (cI, 9, .inl o_18)), (qn, .inr (1, [.int n_nodes, .int n_links, .int n_room, .int n_alive, .int n_inMap, .ref qn_low, .ref qn_high, .ref qn_length])), (qn_low, .inl (cI, 18, .inl n_low)), (qn_high, .inl (cI, 18, .inl n_high)), (qn_length, .inl (cI, 18, .inl n_length))] H := hP
  have hD : va_D A [(qv, .inr (2, [.ref qn, .ref qy, .ref qt, .int v_joined, .int v_arrived, .int v_lostInVain, .int v_costs, .int v_trueLengths, .int (if v_longestList < o_14 then o_14 else v_longestList), .int v_longestListArrived, .int (if v_mostSteps < o_8 then o_8 else v_mostSteps), .int v_dearer])), (qt, .inr (0, [.ref qn, .ref qy, .int o_8, .int o_9, .int o_10, .int o_11, .int o_12, .int o_13, .int o_14, .ref qt_visited, .ref qt_metLow, .ref qt_metHigh])), (qt_visited, .inl (cI, 41, .inl o_15)), (qt_metLow, .inl (cI, 18, .inl o_16)), (qt_metHigh, .inl (cI, 18, .inl o_17)), (qy, .inr (4, [.ref qn, .ref qy_far, .int o_19])), (qy_far, .inl (cI, 9, .inl o_18)), (qn, .inr (1, [.int n_nodes, .int n_links, .int n_room, .int n_alive, .int n_inMap, .ref qn_low, .ref qn_high, .ref qn_length])), (qn_low, .inl (cI, 18, .inl n_low)), (qn_high, .inl (cI, 18, .inl n_high)), (qn_length, .inl (cI, 18, .inl n_length))] := hD
  refine lv_iload hx hb dX2_takePair_83 (lv_at hl 1 rfl) ?_
  refine lv_if_eq (tgt := 98) hx hb dX2_takePair_85 (by decide) (fun cc_21 => ?_) (fun cc_21 => ?_)
  · have h := (if_pos cc_21).symm.trans h
    exact w98 r_4 r_6 v_joined v_arrived v_lostInVain v_costs v_trueLengths (if v_longestList < o_14 then o_14 else v_longestList) v_longestListArrived (if v_mostSteps < o_8 then o_8 else v_mostSteps) v_dearer o_8 o_9 o_10 o_11 o_12 o_13 o_14 o_15 o_16 o_17 o_18 o_19 n_nodes n_links n_alive n_inMap n_low n_high n_length _ _ _ hP hD hS (lv_sub hl [2, 1, 0] rfl) h
  · have h := (if_neg cc_21).symm.trans h
    refine lv_aload_n hx hb dX2_takePair_88 rfl (lv_at hl 2 rfl) ?_
    refine lv_dup hx hb dX2_takePair_89 rfl ?_
    refine va_get (D := D) (ci := 2) (v := .int v_joined) (C := RX2) (T := TX2) (N := 12) hx hb hu k_iX2 hown hK hP 0 rfl rfl 3 (by decide) (hu _ u_204) (fun _ h9 => h9) rfl dX2_takePair_90 ?_
    refine lv_iconst (v := (1 : Int32)) hx hb dX2_takePair_93 (by decide) ?_
    refine lv_iadd hx hb dX2_takePair_94 ?_
    refine va_put (D := D) (ci := 2) (v := .int (v_joined + (1 : Int32))) (ty := .int) (C := RX2) (T := TX2) (N := 12) hx hb hu k_iX2 tyX2 tyX2_ok nmX2 hown hK hP hD hS 0 rfl rfl 3 (by decide) (hu _ u_204) (fun _ h9 => h9) rfl (by decide +kernel) rfl rfl (Nat.le_of_ble_eq_true rfl) dX2_takePair_95 (fun H locs hP hD hS => ?_)
    have hP : va_P D vwCl [(qv, .inr (2, [.ref qn, .ref qy, .ref qt, .int (v_joined + (1 : Int32)), .int v_arrived, .int v_lostInVain, .int v_costs, .int v_trueLengths, .int (if v_longestList < o_14 then o_14 else v_longestList), .int v_longestListArrived, .int (if v_mostSteps < o_8 then o_8 else v_mostSteps), .int v_dearer])), (qt, .inr (0, [.ref qn, .ref qy, .int o_8, .int o_9, .int o_10, .int o_11, .int o_12, .int o_13, .int o_14, .ref qt_visited, .ref qt_metLow, .ref qt_metHigh])), (qt_visited, .inl (cI, 41, .inl o_15)), (qt_metLow, .inl (cI, 18, .inl o_16)), (qt_metHigh, .inl (cI, 18, .inl o_17)), (qy, .inr (4, [.ref qn, .ref qy_far, .int o_19])), (qy_far, .inl (cI, 9, .inl o_18)), (qn, .inr (1, [.int n_nodes, .int n_links, .int n_room, .int n_alive, .int n_inMap, .ref qn_low, .ref qn_high, .ref qn_length])), (qn_low, .inl (cI, 18, .inl n_low)), (qn_high, .inl (cI, 18, .inl n_high)), (qn_length, .inl (cI, 18, .inl n_length))] H := hP
    have hD : va_D A [(qv, .inr (2, [.ref qn, .ref qy, .ref qt, .int (v_joined + (1 : Int32)), .int v_arrived, .int v_lostInVain, .int v_costs, .int v_trueLengths, .int (if v_longestList < o_14 then o_14 else v_longestList), .int v_longestListArrived, .int (if v_mostSteps < o_8 then o_8 else v_mostSteps), .int v_dearer])), (qt, .inr (0, [.ref qn, .ref qy, .int o_8, .int o_9, .int o_10, .int o_11, .int o_12, .int o_13, .int o_14, .ref qt_visited, .ref qt_metLow, .ref qt_metHigh])), (qt_visited, .inl (cI, 41, .inl o_15)), (qt_metLow, .inl (cI, 18, .inl o_16)), (qt_metHigh, .inl (cI, 18, .inl o_17)), (qy, .inr (4, [.ref qn, .ref qy_far, .int o_19])), (qy_far, .inl (cI, 9, .inl o_18)), (qn, .inr (1, [.int n_nodes, .int n_links, .int n_room, .int n_alive, .int n_inMap, .ref qn_low, .ref qn_high, .ref qn_length])), (qn_low, .inl (cI, 18, .inl n_low)), (qn_high, .inl (cI, 18, .inl n_high)), (qn_length, .inl (cI, 18, .inl n_length))] := hD
    exact w98 r_4 r_6 (v_joined + (1 : Int32)) v_arrived v_lostInVain v_costs v_trueLengths (if v_longestList < o_14 then o_14 else v_longestList) v_longestListArrived (if v_mostSteps < o_8 then o_8 else v_mostSteps) v_dearer o_8 o_9 o_10 o_11 o_12 o_13 o_14 o_15 o_16 o_17 o_18 o_19 n_nodes n_links n_alive n_inMap n_low n_high n_length _ _ _ hP hD hS (lv_sub hl [2, 1, 0] rfl) h
def f_X2_take_b20 (k6 : Int32 → Int32 → Int32 → Int32 → Int32 → Int32 → Int32 → Int32 → Int32 → Int32 → Int32 → Int32 → Int32 → Int32 → Int32 → Int32 → Int32 → Int32 → Int32 → (Nat → Int32) → (Nat → Int32) → (Nat → Int32) → (Nat → Int32) → Int32 → Int32 → Int32 → Int32 → Int32 → (Nat → Int32) → (Nat → Int32) → (Nat → Int32) → Option (Int32 × Int32 × Int32 × Int32 × Int32 × Int32 × Int32 × Int32 × Int32 × Int32 × Int32 × Int32 × Int32 × Int32 × Int32 × Int32 × (Nat → Int32) × (Nat → Int32) × (Nat → Int32) × (Nat → Int32) × Int32)) : Nat → Int32 → Int32 → Int32 → Int32 → Int32 → Int32 → Int32 → Int32 → Int32 → Int32 → Int32 → Int32 → Int32 → Int32 → Int32 → Int32 → Int32 → Int32 → Int32 → Int32 → (Nat → Int32) → (Nat → Int32) → (Nat → Int32) → (Nat → Int32) → Int32 → Int32 → Int32 → Int32 → Int32 → (Nat → Int32) → (Nat → Int32) → (Nat → Int32) → Option (Int32 × Int32 × Int32 × Int32 × Int32 × Int32 × Int32 × Int32 × Int32 × Int32 × Int32 × Int32 × Int32 × Int32 × Int32 × Int32 × (Nat → Int32) × (Nat → Int32) × (Nat → Int32) × (Nat → Int32) × Int32)
  | 0, _, _, _, _, _, _, _, _, _, _, _, _, _, _, _, _, _, _, _, _, _, _, _, _, _, _, _, _, _, _, _, _ => none
  | n + 1, x1, x2, x3, x4, v_joined, v_arrived, v_lostInVain, v_costs, v_trueLengths, v_longestList, v_longestListArrived, v_mostSteps, v_dearer, t_steps, t_cost, t_cause, t_place, t_computed, t_list, t_listed, t_visited, t_metLow, t_metHigh, y_far, y_usable, n_nodes, n_links, n_alive, n_inMap, n_low, n_high, n_length =>
    if n_nodes ≤ x4 then
      k6 x1 x2 (x3 + (1 : Int32)) v_joined v_arrived v_lostInVain v_costs v_trueLengths v_longestList v_longestListArrived v_mostSteps v_dearer t_steps t_cost t_cause t_place t_computed t_list t_listed t_visited t_metLow t_metHigh y_far y_usable n_nodes n_links n_alive n_inMap n_low n_high n_length
    else
      if x3 = x4 then
        (f_X2_take_b20 k6 n) x1 x2 x3 (x4 + (1 : Int32)) v_joined v_arrived v_lostInVain v_costs v_trueLengths v_longestList v_longestListArrived v_mostSteps v_dearer t_steps t_cost t_cause t_place t_computed t_list t_listed t_visited t_metLow t_metHigh y_far y_usable n_nodes n_links n_alive n_inMap n_low n_high n_length
      else
        (f_X2_takePair x3 x4 x1 x2 v_joined v_arrived v_lostInVain v_costs v_trueLengths v_longestList v_longestListArrived v_mostSteps v_dearer t_steps t_cost t_cause t_place t_computed t_list t_listed t_visited t_metLow t_metHigh y_far y_usable n_nodes n_links n_alive n_inMap n_low n_high n_length).bind fun ⟨o_4, o_5, o_6, o_7, o_8, o_9, o_10, o_11, o_12, o_13, o_14, o_15, o_16, o_17, o_18, o_19, o_20, o_21, o_22, o_23, o_24⟩ =>
        (f_X2_take_b20 k6 n) x1 x2 x3 (x4 + (1 : Int32)) o_4 o_5 o_6 o_7 o_8 o_9 o_10 o_11 o_12 o_13 o_14 o_15 o_16 o_17 o_18 o_19 o_20 o_21 o_22 o_23 o_24 n_nodes n_links n_alive n_inMap n_low n_high n_length
def f_X2_take_b6  : Nat → Int32 → Int32 → Int32 → Int32 → Int32 → Int32 → Int32 → Int32 → Int32 → Int32 → Int32 → Int32 → Int32 → Int32 → Int32 → Int32 → Int32 → Int32 → Int32 → (Nat → Int32) → (Nat → Int32) → (Nat → Int32) → (Nat → Int32) → Int32 → Int32 → Int32 → Int32 → Int32 → (Nat → Int32) → (Nat → Int32) → (Nat → Int32) → Option (Int32 × Int32 × Int32 × Int32 × Int32 × Int32 × Int32 × Int32 × Int32 × Int32 × Int32 × Int32 × Int32 × Int32 × Int32 × Int32 × (Nat → Int32) × (Nat → Int32) × (Nat → Int32) × (Nat → Int32) × Int32)
  | 0, _, _, _, _, _, _, _, _, _, _, _, _, _, _, _, _, _, _, _, _, _, _, _, _, _, _, _, _, _, _, _ => none
  | n + 1, x1, x2, x3, v_joined, v_arrived, v_lostInVain, v_costs, v_trueLengths, v_longestList, v_longestListArrived, v_mostSteps, v_dearer, t_steps, t_cost, t_cause, t_place, t_computed, t_list, t_listed, t_visited, t_metLow, t_metHigh, y_far, y_usable, n_nodes, n_links, n_alive, n_inMap, n_low, n_high, n_length =>
    if n_nodes ≤ x3 then
      some (v_joined, v_arrived, v_lostInVain, v_costs, v_trueLengths, v_longestList, v_longestListArrived, v_mostSteps, v_dearer, t_steps, t_cost, t_cause, t_place, t_computed, t_list, t_listed, t_visited, t_metLow, t_metHigh, y_far, y_usable)
    else
      f_X2_take_b20 (f_X2_take_b6 n) 1000 x1 x2 x3 (0 : Int32) v_joined v_arrived v_lostInVain v_costs v_trueLengths v_longestList v_longestListArrived v_mostSteps v_dearer t_steps t_cost t_cause t_place t_computed t_list t_listed t_visited t_metLow t_metHigh y_far y_usable n_nodes n_links n_alive n_inMap n_low n_high n_length
def f_X2_take (p1 : Int32) (p2 : Int32) (v_joined : Int32) (v_arrived : Int32) (v_lostInVain : Int32) (v_costs : Int32) (v_trueLengths : Int32) (v_longestList : Int32) (v_longestListArrived : Int32) (v_mostSteps : Int32) (v_dearer : Int32) (t_steps : Int32) (t_cost : Int32) (t_cause : Int32) (t_place : Int32) (t_computed : Int32) (t_list : Int32) (t_listed : Int32) (t_visited : (Nat → Int32)) (t_metLow : (Nat → Int32)) (t_metHigh : (Nat → Int32)) (y_far : (Nat → Int32)) (y_usable : Int32) (n_nodes : Int32) (n_links : Int32) (n_alive : Int32) (n_inMap : Int32) (n_low : (Nat → Int32)) (n_high : (Nat → Int32)) (n_length : (Nat → Int32)) : Option (Int32 × Int32 × Int32 × Int32 × Int32 × Int32 × Int32 × Int32 × Int32 × Int32 × Int32 × Int32 × Int32 × Int32 × Int32 × Int32 × (Nat → Int32) × (Nat → Int32) × (Nat → Int32) × (Nat → Int32) × Int32) :=
  f_X2_take_b6 1000 p1 p2 (0 : Int32) ((f_X2_forget v_joined v_arrived v_lostInVain v_costs v_trueLengths v_longestList v_longestListArrived v_mostSteps v_dearer).1) ((f_X2_forget v_joined v_arrived v_lostInVain v_costs v_trueLengths v_longestList v_longestListArrived v_mostSteps v_dearer).2.1) ((f_X2_forget v_joined v_arrived v_lostInVain v_costs v_trueLengths v_longestList v_longestListArrived v_mostSteps v_dearer).2.2.1) ((f_X2_forget v_joined v_arrived v_lostInVain v_costs v_trueLengths v_longestList v_longestListArrived v_mostSteps v_dearer).2.2.2.1) ((f_X2_forget v_joined v_arrived v_lostInVain v_costs v_trueLengths v_longestList v_longestListArrived v_mostSteps v_dearer).2.2.2.2.1) ((f_X2_forget v_joined v_arrived v_lostInVain v_costs v_trueLengths v_longestList v_longestListArrived v_mostSteps v_dearer).2.2.2.2.2.1) ((f_X2_forget v_joined v_arrived v_lostInVain v_costs v_trueLengths v_longestList v_longestListArrived v_mostSteps v_dearer).2.2.2.2.2.2.1) ((f_X2_forget v_joined v_arrived v_lostInVain v_costs v_trueLengths v_longestList v_longestListArrived v_mostSteps v_dearer).2.2.2.2.2.2.2.1) ((f_X2_forget v_joined v_arrived v_lostInVain v_costs v_trueLengths v_longestList v_longestListArrived v_mostSteps v_dearer).2.2.2.2.2.2.2.2) t_steps t_cost t_cause t_place t_computed t_list t_listed t_visited t_metLow t_metHigh y_far y_usable n_nodes n_links n_alive n_inMap n_low n_high n_length
set_option maxHeartbeats 4000000 in
set_option maxRecDepth 100000 in
theorem c_X2_take (l : Launch) (D : va_G) (cI cZ cN : ClassId) (aK aV : Nat → Nat)  (qv : Nat) (qt : Nat) (qt_visited : Nat) (qt_metLow : Nat) (qt_metHigh : Nat) (qy : Nat) (qy_far : Nat) (qn : Nat) (qn_low : Nat) (qn_high : Nat) (qn_length : Nat) (v_joined : Int32) (v_arrived : Int32) (v_lostInVain : Int32) (v_costs : Int32) (v_trueLengths : Int32) (v_longestList : Int32) (v_longestListArrived : Int32) (v_mostSteps : Int32) (v_dearer : Int32) (t_steps : Int32) (t_cost : Int32) (t_cause : Int32) (t_place : Int32) (t_computed : Int32) (t_list : Int32) (t_listed : Int32) (t_visited : (Nat → Int32)) (t_metLow : (Nat → Int32)) (t_metHigh : (Nat → Int32)) (y_far : (Nat → Int32)) (y_usable : Int32) (n_nodes : Int32) (n_links : Int32) (n_room : Int32) (n_alive : Int32) (n_inMap : Int32) (n_low : (Nat → Int32)) (n_high : (Nat → Int32)) (n_length : (Nat → Int32)) (p1 p2 : Int32) (z_v_joined : Int32) (z_v_arrived : Int32) (z_v_lostInVain : Int32) (z_v_costs : Int32) (z_v_trueLengths : Int32) (z_v_longestList : Int32) (z_v_longestListArrived : Int32) (z_v_mostSteps : Int32) (z_v_dearer : Int32) (z_t_steps : Int32) (z_t_cost : Int32) (z_t_cause : Int32) (z_t_place : Int32) (z_t_computed : Int32) (z_t_list : Int32) (z_t_listed : Int32) (z_t_visited : (Nat → Int32)) (z_t_metLow : (Nat → Int32)) (z_t_metHigh : (Nat → Int32)) (z_y_far : (Nat → Int32)) (z_y_usable : Int32) (h : f_X2_take p1 p2 v_joined v_arrived v_lostInVain v_costs v_trueLengths v_longestList v_longestListArrived v_mostSteps v_dearer t_steps t_cost t_cause t_place t_computed t_list t_listed t_visited t_metLow t_metHigh y_far y_usable n_nodes n_links n_alive n_inMap n_low n_high n_length = some (z_v_joined, z_v_arrived, z_v_lostInVain, z_v_costs, z_v_trueLengths, z_v_longestList, z_v_longestListArrived, z_v_mostSteps, z_v_dearer, z_t_steps, z_t_cost, z_t_cause, z_t_place, z_t_computed, z_t_list, z_t_listed, z_t_visited, z_t_metLow, z_t_metHigh, z_y_far, z_y_usable)) : CtV l D cI cZ cN aK aV yX2_take (k_W yX2_take cX2_take 5 none) { frames := 5, cells := 0, slots := 0, locals := 123 } [.ref qv, .int p1, .int p2] [(qv, .inr (2, [.ref qn, .ref qy, .ref qt, .int v_joined, .int v_arrived, .int v_lostInVain, .int v_costs, .int v_trueLengths, .int v_longestList, .int v_longestListArrived, .int v_mostSteps, .int v_dearer])), (qt, .inr (0, [.ref qn, .ref qy, .int t_steps, .int t_cost, .int t_cause, .int t_place, .int t_computed, .int t_list, .int t_listed, .ref qt_visited, .ref qt_metLow, .ref qt_metHigh])), (qt_visited, .inl (cI, 41, .inl t_visited)), (qt_metLow, .inl (cI, 18, .inl t_metLow)), (qt_metHigh, .inl (cI, 18, .inl t_metHigh)), (qy, .inr (4, [.ref qn, .ref qy_far, .int y_usable])), (qy_far, .inl (cI, 9, .inl y_far)), (qn, .inr (1, [.int n_nodes, .int n_links, .int n_room, .int n_alive, .int n_inMap, .ref qn_low, .ref qn_high, .ref qn_length])), (qn_low, .inl (cI, 18, .inl n_low)), (qn_high, .inl (cI, 18, .inl n_high)), (qn_length, .inl (cI, 18, .inl n_length))] [(qv, .inr (2, [.ref qn, .ref qy, .ref qt, .int z_v_joined, .int z_v_arrived, .int z_v_lostInVain, .int z_v_costs, .int z_v_trueLengths, .int z_v_longestList, .int z_v_longestListArrived, .int z_v_mostSteps, .int z_v_dearer])), (qt, .inr (0, [.ref qn, .ref qy, .int z_t_steps, .int z_t_cost, .int z_t_cause, .int z_t_place, .int z_t_computed, .int z_t_list, .int z_t_listed, .ref qt_visited, .ref qt_metLow, .ref qt_metHigh])), (qt_visited, .inl (cI, 41, .inl z_t_visited)), (qt_metLow, .inl (cI, 18, .inl z_t_metLow)), (qt_metHigh, .inl (cI, 18, .inl z_t_metHigh)), (qy, .inr (4, [.ref qn, .ref qy_far, .int z_y_usable])), (qy_far, .inl (cI, 9, .inl z_y_far)), (qn, .inr (1, [.int n_nodes, .int n_links, .int n_room, .int n_alive, .int n_inMap, .ref qn_low, .ref qn_high, .ref qn_length])), (qn_low, .inl (cI, 18, .inl n_low)), (qn_high, .inl (cI, 18, .inl n_high)), (qn_length, .inl (cI, 18, .inl n_length))] := by
  refine k_startV (by decide) (Nat.le_of_ble_eq_true rfl) ?_
  intro p e s m below meth c A ls hx hb hr hml hown hts hlocks hT hZ hA hP hD hS hl
  have hK := hT.1
  have hu : ∀ w ∈ k_U, w.before ([.ref qv, .int p1, .int p2] : List Value).toArray s = true := fun w h => hts w (List.mem_cons_of_mem _ h)
  have hown : s.vm.findClass RX2 = some m.cls := hown
  have hl : lv_has ls 5 [(0, .ref qv), (1, .int p1), (2, .int p2)] := hl
  unfold f_X2_take at h
  have w6 : ∀ (n6 : Nat) (x1 : Int32) (x2 : Int32) (x3 : Int32) (v_joined : Int32) (v_arrived : Int32) (v_lostInVain : Int32) (v_costs : Int32) (v_trueLengths : Int32) (v_longestList : Int32) (v_longestListArrived : Int32) (v_mostSteps : Int32) (v_dearer : Int32) (t_steps : Int32) (t_cost : Int32) (t_cause : Int32) (t_place : Int32) (t_computed : Int32) (t_list : Int32) (t_listed : Int32) (t_visited : (Nat → Int32)) (t_metLow : (Nat → Int32)) (t_metHigh : (Nat → Int32)) (y_far : (Nat → Int32)) (y_usable : Int32) (n_nodes : Int32) (n_links : Int32) (n_alive : Int32) (n_inMap : Int32) (n_low : (Nat → Int32)) (n_high : (Nat → Int32)) (n_length : (Nat → Int32)) (H : Heap) (locs : List Loc) (ls : Array Slot), va_P D vwCl [(qv, .inr (2, [.ref qn, .ref qy, .ref qt, .int v_joined, .int v_arrived, .int v_lostInVain, .int v_costs, .int v_trueLengths, .int v_longestList, .int v_longestListArrived, .int v_mostSteps, .int v_dearer])), (qt, .inr (0, [.ref qn, .ref qy, .int t_steps, .int t_cost, .int t_cause, .int t_place, .int t_computed, .int t_list, .int t_listed, .ref qt_visited, .ref qt_metLow, .ref qt_metHigh])), (qt_visited, .inl (cI, 41, .inl t_visited)), (qt_metLow, .inl (cI, 18, .inl t_metLow)), (qt_metHigh, .inl (cI, 18, .inl t_metHigh)), (qy, .inr (4, [.ref qn, .ref qy_far, .int y_usable])), (qy_far, .inl (cI, 9, .inl y_far)), (qn, .inr (1, [.int n_nodes, .int n_links, .int n_room, .int n_alive, .int n_inMap, .ref qn_low, .ref qn_high, .ref qn_length])), (qn_low, .inl (cI, 18, .inl n_low)), (qn_high, .inl (cI, 18, .inl n_high)), (qn_length, .inl (cI, 18, .inl n_length))] H → va_D A [(qv, .inr (2, [.ref qn, .ref qy, .ref qt, .int v_joined, .int v_arrived, .int v_lostInVain, .int v_costs, .int v_trueLengths, .int v_longestList, .int v_longestListArrived, .int v_mostSteps, .int v_dearer])), (qt, .inr (0, [.ref qn, .ref qy, .int t_steps, .int t_cost, .int t_cause, .int t_place, .int t_computed, .int t_list, .int t_listed, .ref qt_visited, .ref qt_metLow, .ref qt_metHigh])), (qt_visited, .inl (cI, 41, .inl t_visited)), (qt_metLow, .inl (cI, 18, .inl t_metLow)), (qt_metHigh, .inl (cI, 18, .inl t_metHigh)), (qy, .inr (4, [.ref qn, .ref qy_far, .int y_usable])), (qy_far, .inl (cI, 9, .inl y_far)), (qn, .inr (1, [.int n_nodes, .int n_links, .int n_room, .int n_alive, .int n_inMap, .ref qn_low, .ref qn_high, .ref qn_length])), (qn_low, .inl (cI, 18, .inl n_low)), (qn_high, .inl (cI, 18, .inl n_high)), (qn_length, .inl (cI, 18, .inl n_length))] → va_S A s.heap H locs → lv_has ls 5 [(0, .ref qv), (1, .int x1), (2, .int x2), (3, .int x3)] → f_X2_take_b6 n6 x1 x2 x3 v_joined v_arrived v_lostInVain v_costs v_trueLengths v_longestList v_longestListArrived v_mostSteps v_dearer t_steps t_cost t_cause t_place t_computed t_list t_listed t_visited t_metLow t_metHigh y_far y_usable n_nodes n_links n_alive n_inMap n_low n_high n_length = some (z_v_joined, z_v_arrived, z_v_lostInVain, z_v_costs, z_v_trueLengths, z_v_longestList, z_v_longestListArrived, z_v_mostSteps, z_v_dearer, z_t_steps, z_t_cost, z_t_cause, z_t_place, z_t_computed, z_t_list, z_t_listed, z_t_visited, z_t_metLow, z_t_metHigh, z_y_far, z_y_usable) → W p l e { frames := 5, cells := 0, slots := 0, locals := 123 } s m ([.ref qv, .int p1, .int p2] : List Value).toArray below meth c H locs 0 0 (MQ below (k_QV D [(qv, .inr (2, [.ref qn, .ref qy, .ref qt, .int z_v_joined, .int z_v_arrived, .int z_v_lostInVain, .int z_v_costs, .int z_v_trueLengths, .int z_v_longestList, .int z_v_longestListArrived, .int z_v_mostSteps, .int z_v_dearer])), (qt, .inr (0, [.ref qn, .ref qy, .int z_t_steps, .int z_t_cost, .int z_t_cause, .int z_t_place, .int z_t_computed, .int z_t_list, .int z_t_listed, .ref qt_visited, .ref qt_metLow, .ref qt_metHigh])), (qt_visited, .inl (cI, 41, .inl z_t_visited)), (qt_metLow, .inl (cI, 18, .inl z_t_metLow)), (qt_metHigh, .inl (cI, 18, .inl z_t_metHigh)), (qy, .inr (4, [.ref qn, .ref qy_far, .int z_y_usable])), (qy_far, .inl (cI, 9, .inl z_y_far)), (qn, .inr (1, [.int n_nodes, .int n_links, .int n_room, .int n_alive, .int n_inMap, .ref qn_low, .ref qn_high, .ref qn_length])), (qn_low, .inl (cI, 18, .inl n_low)), (qn_high, .inl (cI, 18, .inl n_high)), (qn_length, .inl (cI, 18, .inl n_length))] A) ([.ref qv, .int p1, .int p2] : List Value).toArray s 0 0 A) (F0 m 6 ls []) := by
    intro n6
    induction n6 with
    | zero =>
      intro x1 x2 x3 v_joined v_arrived v_lostInVain v_costs v_trueLengths v_longestList v_longestListArrived v_mostSteps v_dearer t_steps t_cost t_cause t_place t_computed t_list t_listed t_visited t_metLow t_metHigh y_far y_usable n_nodes n_links n_alive n_inMap n_low n_high n_length H locs ls hP hD hS hl h
      rw [f_X2_take_b6] at h
      cases h
    | succ n6 ih6 =>
      intro x1 x2 x3 v_joined v_arrived v_lostInVain v_costs v_trueLengths v_longestList v_longestListArrived v_mostSteps v_dearer t_steps t_cost t_cause t_place t_computed t_list t_listed t_visited t_metLow t_metHigh y_far y_usable n_nodes n_links n_alive n_inMap n_low n_high n_length H locs ls hP hD hS hl h
      rw [f_X2_take_b6] at h
      have w20 : ∀ (n20 : Nat) (x1 : Int32) (x2 : Int32) (x3 : Int32) (x4 : Int32) (v_joined : Int32) (v_arrived : Int32) (v_lostInVain : Int32) (v_costs : Int32) (v_trueLengths : Int32) (v_longestList : Int32) (v_longestListArrived : Int32) (v_mostSteps : Int32) (v_dearer : Int32) (t_steps : Int32) (t_cost : Int32) (t_cause : Int32) (t_place : Int32) (t_computed : Int32) (t_list : Int32) (t_listed : Int32) (t_visited : (Nat → Int32)) (t_metLow : (Nat → Int32)) (t_metHigh : (Nat → Int32)) (y_far : (Nat → Int32)) (y_usable : Int32) (n_nodes : Int32) (n_links : Int32) (n_alive : Int32) (n_inMap : Int32) (n_low : (Nat → Int32)) (n_high : (Nat → Int32)) (n_length : (Nat → Int32)) (H : Heap) (locs : List Loc) (ls : Array Slot), va_P D vwCl [(qv, .inr (2, [.ref qn, .ref qy, .ref qt, .int v_joined, .int v_arrived, .int v_lostInVain, .int v_costs, .int v_trueLengths, .int v_longestList, .int v_longestListArrived, .int v_mostSteps, .int v_dearer])), (qt, .inr (0, [.ref qn, .ref qy, .int t_steps, .int t_cost, .int t_cause, .int t_place, .int t_computed, .int t_list, .int t_listed, .ref qt_visited, .ref qt_metLow, .ref qt_metHigh])), (qt_visited, .inl (cI, 41, .inl t_visited)), (qt_metLow, .inl (cI, 18, .inl t_metLow)), (qt_metHigh, .inl (cI, 18, .inl t_metHigh)), (qy, .inr (4, [.ref qn, .ref qy_far, .int y_usable])), (qy_far, .inl (cI, 9, .inl y_far)), (qn, .inr (1, [.int n_nodes, .int n_links, .int n_room, .int n_alive, .int n_inMap, .ref qn_low, .ref qn_high, .ref qn_length])), (qn_low, .inl (cI, 18, .inl n_low)), (qn_high, .inl (cI, 18, .inl n_high)), (qn_length, .inl (cI, 18, .inl n_length))] H → va_D A [(qv, .inr (2, [.ref qn, .ref qy, .ref qt, .int v_joined, .int v_arrived, .int v_lostInVain, .int v_costs, .int v_trueLengths, .int v_longestList, .int v_longestListArrived, .int v_mostSteps, .int v_dearer])), (qt, .inr (0, [.ref qn, .ref qy, .int t_steps, .int t_cost, .int t_cause, .int t_place, .int t_computed, .int t_list, .int t_listed, .ref qt_visited, .ref qt_metLow, .ref qt_metHigh])), (qt_visited, .inl (cI, 41, .inl t_visited)), (qt_metLow, .inl (cI, 18, .inl t_metLow)), (qt_metHigh, .inl (cI, 18, .inl t_metHigh)), (qy, .inr (4, [.ref qn, .ref qy_far, .int y_usable])), (qy_far, .inl (cI, 9, .inl y_far)), (qn, .inr (1, [.int n_nodes, .int n_links, .int n_room, .int n_alive, .int n_inMap, .ref qn_low, .ref qn_high, .ref qn_length])), (qn_low, .inl (cI, 18, .inl n_low)), (qn_high, .inl (cI, 18, .inl n_high)), (qn_length, .inl (cI, 18, .inl n_length))] → va_S A s.heap H locs → lv_has ls 5 [(0, .ref qv), (1, .int x1), (2, .int x2), (3, .int x3), (4, .int x4)] → f_X2_take_b20 (f_X2_take_b6 n6) n20 x1 x2 x3 x4 v_joined v_arrived v_lostInVain v_costs v_trueLengths v_longestList v_longestListArrived v_mostSteps v_dearer t_steps t_cost t_cause t_place t_computed t_list t_listed t_visited t_metLow t_metHigh y_far y_usable n_nodes n_links n_alive n_inMap n_low n_high n_length = some (z_v_joined, z_v_arrived, z_v_lostInVain, z_v_costs, z_v_trueLengths, z_v_longestList, z_v_longestListArrived, z_v_mostSteps, z_v_dearer, z_t_steps, z_t_cost, z_t_cause, z_t_place, z_t_computed, z_t_list, z_t_listed, z_t_visited, z_t_metLow, z_t_metHigh, z_y_far, z_y_usable) → W p l e { frames := 5, cells := 0, slots := 0, locals := 123 } s m ([.ref qv, .int p1, .int p2] : List Value).toArray below meth c H locs 0 0 (MQ below (k_QV D [(qv, .inr (2, [.ref qn, .ref qy, .ref qt, .int z_v_joined, .int z_v_arrived, .int z_v_lostInVain, .int z_v_costs, .int z_v_trueLengths, .int z_v_longestList, .int z_v_longestListArrived, .int z_v_mostSteps, .int z_v_dearer])), (qt, .inr (0, [.ref qn, .ref qy, .int z_t_steps, .int z_t_cost, .int z_t_cause, .int z_t_place, .int z_t_computed, .int z_t_list, .int z_t_listed, .ref qt_visited, .ref qt_metLow, .ref qt_metHigh])), (qt_visited, .inl (cI, 41, .inl z_t_visited)), (qt_metLow, .inl (cI, 18, .inl z_t_metLow)), (qt_metHigh, .inl (cI, 18, .inl z_t_metHigh)), (qy, .inr (4, [.ref qn, .ref qy_far, .int z_y_usable])), (qy_far, .inl (cI, 9, .inl z_y_far)), (qn, .inr (1, [.int n_nodes, .int n_links, .int n_room, .int n_alive, .int n_inMap, .ref qn_low, .ref qn_high, .ref qn_length])), (qn_low, .inl (cI, 18, .inl n_low)), (qn_high, .inl (cI, 18, .inl n_high)), (qn_length, .inl (cI, 18, .inl n_length))] A) ([.ref qv, .int p1, .int p2] : List Value).toArray s 0 0 A) (F0 m 20 ls []) := by
        intro n20
        induction n20 with
        | zero =>
          intro x1 x2 x3 x4 v_joined v_arrived v_lostInVain v_costs v_trueLengths v_longestList v_longestListArrived v_mostSteps v_dearer t_steps t_cost t_cause t_place t_computed t_list t_listed t_visited t_metLow t_metHigh y_far y_usable n_nodes n_links n_alive n_inMap n_low n_high n_length H locs ls hP hD hS hl h
          rw [f_X2_take_b20] at h
          cases h
        | succ n20 ih20 =>
          intro x1 x2 x3 x4 v_joined v_arrived v_lostInVain v_costs v_trueLengths v_longestList v_longestListArrived v_mostSteps v_dearer t_steps t_cost t_cause t_place t_computed t_list t_listed t_visited t_metLow t_metHigh y_far y_usable n_nodes n_links n_alive n_inMap n_low n_high n_length H locs ls hP hD hS hl h
          rw [f_X2_take_b20] at h
          refine lv_iload hx hb dX2_take_20 (lv_at hl 4 rfl) ?_
          refine lv_aload_n hx hb dX2_take_22 rfl (lv_at hl 0 rfl) ?_
          refine va_get (D := D) (ci := 2) (v := .ref qn) (C := RX2) (T := TX2) (N := 12) hx hb hu k_iX2 hown hK hP 0 rfl rfl 0 (by decide) (hu _ u_201) (fun _ h9 => h9) rfl dX2_take_23 ?_
          refine va_get (D := D) (ci := 1) (v := .int n_nodes) (C := RX1) (T := TX1) (N := 8) hx hb hu k_iX1 hown hK hP 7 rfl rfl 0 (by decide) (hu _ u_74) (fun _ h9 => h9) rfl dX2_take_26 ?_
          refine lv_icmp_ge (tgt := 53) hx hb dX2_take_29 (by decide) (fun cc_2 => ?_) (fun cc_2 => ?_)
          · have h := (if_pos cc_2).symm.trans h
            refine lv_iinc (v := (x3 + (1 : Int32))) (lv' := [(3, .int (x3 + (1 : Int32))), (0, .ref qv), (1, .int x1), (2, .int x2), (4, .int x4)]) hx hb dX2_take_53 hl (k := 3) rfl rfl (by decide) rfl (fun ls hl => ?_)
            refine lv_goto (tgt := 6) hx hb dX2_take_56 (by decide) ?_
            exact ih6 x1 x2 (x3 + (1 : Int32)) v_joined v_arrived v_lostInVain v_costs v_trueLengths v_longestList v_longestListArrived v_mostSteps v_dearer t_steps t_cost t_cause t_place t_computed t_list t_listed t_visited t_metLow t_metHigh y_far y_usable n_nodes n_links n_alive n_inMap n_low n_high n_length _ _ _ hP hD hS (lv_sub hl [1, 2, 3, 0] rfl) h
          · have h := (if_neg cc_2).symm.trans h
            refine lv_iload_n hx hb dX2_take_32 rfl (lv_at hl 3 rfl) ?_
            refine lv_iload hx hb dX2_take_33 (lv_at hl 4 rfl) ?_
            refine lv_icmp_eq (tgt := 47) hx hb dX2_take_35 (by decide) (fun cc_3 => ?_) (fun cc_3 => ?_)
            · have h := (if_pos cc_3).symm.trans h
              refine lv_iinc (v := (x4 + (1 : Int32))) (lv' := [(4, .int (x4 + (1 : Int32))), (0, .ref qv), (1, .int x1), (2, .int x2), (3, .int x3)]) hx hb dX2_take_47 hl (k := 4) rfl rfl (by decide) rfl (fun ls hl => ?_)
              refine lv_goto (tgt := 20) hx hb dX2_take_50 (by decide) ?_
              exact ih20 x1 x2 x3 (x4 + (1 : Int32)) v_joined v_arrived v_lostInVain v_costs v_trueLengths v_longestList v_longestListArrived v_mostSteps v_dearer t_steps t_cost t_cause t_place t_computed t_list t_listed t_visited t_metLow t_metHigh y_far y_usable n_nodes n_links n_alive n_inMap n_low n_high n_length _ _ _ hP hD hS (lv_sub hl [1, 2, 3, 4, 0] rfl) h
            · have h := (if_neg cc_3).symm.trans h
              refine lv_aload_n hx hb dX2_take_38 rfl (lv_at hl 0 rfl) ?_
              refine lv_iload_n hx hb dX2_take_39 rfl (lv_at hl 3 rfl) ?_
              refine lv_iload hx hb dX2_take_40 (lv_at hl 4 rfl) ?_
              refine lv_iload_n hx hb dX2_take_42 rfl (lv_at hl 1 rfl) ?_
              refine lv_iload_n hx hb dX2_take_43 rfl (lv_at hl 2 rfl) ?_
              obtain ⟨⟨o_4, o_5, o_6, o_7, o_8, o_9, o_10, o_11, o_12, o_13, o_14, o_15, o_16, o_17, o_18, o_19, o_20, o_21, o_22, o_23, o_24⟩, hc_25, h⟩ := ob_bind h
              dsimp only at h
              refine k_callVV (qb := 0) [0, 1, 2, 3, 4, 5, 6, 7, 8, 9, 10] [0, 1, 2, 3, 4, 5, 6] [0, 1, 2, 3, 4, 5, 6] [(qv, .inr (2, [.ref qn, .ref qy, .ref qt, .int o_4, .int o_5, .int o_6, .int o_7, .int o_8, .int o_9, .int o_10, .int o_11, .int o_12])), (qt, .inr (0, [.ref qn, .ref qy, .int o_13, .int o_14, .int o_15, .int o_16, .int o_17, .int o_18, .int o_19, .ref qt_visited, .ref qt_metLow, .ref qt_metHigh])), (qt_visited, .inl (cI, 41, .inl o_20)), (qt_metLow, .inl (cI, 18, .inl o_21)), (qt_metHigh, .inl (cI, 18, .inl o_22)), (qy, .inr (4, [.ref qn, .ref qy_far, .int o_24])), (qy_far, .inl (cI, 9, .inl o_23))] (As := [.int x3, .int x4, .int x1, .int x2]) (rest := []) ⟨hx, hb, hml, hown, hts⟩ hT hZ hA hP hD hS (c_X2_takePair l D cI cZ cN aK aV qv qt qt_visited qt_metLow qt_metHigh qy qy_far qn qn_low qn_high qn_length v_joined v_arrived v_lostInVain v_costs v_trueLengths v_longestList v_longestListArrived v_mostSteps v_dearer t_steps t_cost t_cause t_place t_computed t_list t_listed t_visited t_metLow t_metHigh y_far y_usable n_nodes n_links n_room n_alive n_inMap n_low n_high n_length x3 x4 x1 x2 o_4 o_5 o_6 o_7 o_8 o_9 o_10 o_11 o_12 o_13 o_14 o_15 o_16 o_17 o_18 o_19 o_20 o_21 o_22 o_23 o_24 hc_25) ⟨callB_of 4 hts (k_good u_563) rfl rfl rfl (hu _ u_49) (hu _ u_560) (by decide +kernel) ⟨Nat.le_of_ble_eq_true rfl, Nat.le_of_ble_eq_true rfl⟩, hu _ u_562, hu _ u_9⟩ rfl rfl rfl (by decide) (by decide) (by decide) rfl rfl rfl rfl hl.1 rfl (Nat.le_of_ble_eq_true rfl) dX2_take_44 (fun H locs hP hD hS => ?_)
              have hP : va_P D vwCl [(qv, .inr (2, [.ref qn, .ref qy, .ref qt, .int o_4, .int o_5, .int o_6, .int o_7, .int o_8, .int o_9, .int o_10, .int o_11, .int o_12])), (qt, .inr (0, [.ref qn, .ref qy, .int o_13, .int o_14, .int o_15, .int o_16, .int o_17, .int o_18, .int o_19, .ref qt_visited, .ref qt_metLow, .ref qt_metHigh])), (qt_visited, .inl (cI, 41, .inl o_20)), (qt_metLow, .inl (cI, 18, .inl o_21)), (qt_metHigh, .inl (cI, 18, .inl o_22)), (qy, .inr (4, [.ref qn, .ref qy_far, .int o_24])), (qy_far, .inl (cI, 9, .inl o_23)), (qn, .inr (1, [.int n_nodes, .int n_links, .int n_room, .int n_alive, .int n_inMap, .ref qn_low, .ref qn_high, .ref qn_length])), (qn_low, .inl (cI, 18, .inl n_low)), (qn_high, .inl (cI, 18, .inl n_high)), (qn_length, .inl (cI, 18, .inl n_length))] H := hP
              have hD : va_D A [(qv, .inr (2, [.ref qn, .ref qy, .ref qt, .int o_4, .int o_5, .int o_6, .int o_7, .int o_8, .int o_9, .int o_10, .int o_11, .int o_12])), (qt, .inr (0, [.ref qn, .ref qy, .int o_13, .int o_14, .int o_15, .int o_16, .int o_17, .int o_18, .int o_19, .ref qt_visited, .ref qt_metLow, .ref qt_metHigh])), (qt_visited, .inl (cI, 41, .inl o_20)), (qt_metLow, .inl (cI, 18, .inl o_21)), (qt_metHigh, .inl (cI, 18, .inl o_22)), (qy, .inr (4, [.ref qn, .ref qy_far, .int o_24])), (qy_far, .inl (cI, 9, .inl o_23)), (qn, .inr (1, [.int n_nodes, .int n_links, .int n_room, .int n_alive, .int n_inMap, .ref qn_low, .ref qn_high, .ref qn_length])), (qn_low, .inl (cI, 18, .inl n_low)), (qn_high, .inl (cI, 18, .inl n_high)), (qn_length, .inl (cI, 18, .inl n_length))] := hD
              refine lv_iinc (v := (x4 + (1 : Int32))) (lv' := [(4, .int (x4 + (1 : Int32))), (0, .ref qv), (1, .int x1), (2, .int x2), (3, .int x3)]) hx hb dX2_take_47 hl (k := 4) rfl rfl (by decide) rfl (fun ls hl => ?_)
              refine lv_goto (tgt := 20) hx hb dX2_take_50 (by decide) ?_
              exact ih20 x1 x2 x3 (x4 + (1 : Int32)) o_4 o_5 o_6 o_7 o_8 o_9 o_10 o_11 o_12 o_13 o_14 o_15 o_16 o_17 o_18 o_19 o_20 o_21 o_22 o_23 o_24 n_nodes n_links n_alive n_inMap n_low n_high n_length _ _ _ hP hD hS (lv_sub hl [1, 2, 3, 4, 0] rfl) h
      refine lv_iload_n hx hb dX2_take_6 rfl (lv_at hl 3 rfl) ?_
      refine lv_aload_n hx hb dX2_take_7 rfl (lv_at hl 0 rfl) ?_
      refine va_get (D := D) (ci := 2) (v := .ref qn) (C := RX2) (T := TX2) (N := 12) hx hb hu k_iX2 hown hK hP 0 rfl rfl 0 (by decide) (hu _ u_201) (fun _ h9 => h9) rfl dX2_take_8 ?_
      refine va_get (D := D) (ci := 1) (v := .int n_nodes) (C := RX1) (T := TX1) (N := 8) hx hb hu k_iX1 hown hK hP 7 rfl rfl 0 (by decide) (hu _ u_74) (fun _ h9 => h9) rfl dX2_take_11 ?_
      refine lv_icmp_ge (tgt := 59) hx hb dX2_take_14 (by decide) (fun cc_1 => ?_) (fun cc_1 => ?_)
      · have h := (if_pos cc_1).symm.trans h
        have hq := Option.some.inj h
        clear h
        obtain ⟨e0, hq0⟩ := Prod.mk.inj hq
        clear hq
        obtain ⟨e1, hq1⟩ := Prod.mk.inj hq0
        clear hq0
        obtain ⟨e2, hq2⟩ := Prod.mk.inj hq1
        clear hq1
        obtain ⟨e3, hq3⟩ := Prod.mk.inj hq2
        clear hq2
        obtain ⟨e4, hq4⟩ := Prod.mk.inj hq3
        clear hq3
        obtain ⟨e5, hq5⟩ := Prod.mk.inj hq4
        clear hq4
        obtain ⟨e6, hq6⟩ := Prod.mk.inj hq5
        clear hq5
        obtain ⟨e7, hq7⟩ := Prod.mk.inj hq6
        clear hq6
        obtain ⟨e8, hq8⟩ := Prod.mk.inj hq7
        clear hq7
        obtain ⟨e9, hq9⟩ := Prod.mk.inj hq8
        clear hq8
        obtain ⟨e10, hq10⟩ := Prod.mk.inj hq9
        clear hq9
        obtain ⟨e11, hq11⟩ := Prod.mk.inj hq10
        clear hq10
        obtain ⟨e12, hq12⟩ := Prod.mk.inj hq11
        clear hq11
        obtain ⟨e13, hq13⟩ := Prod.mk.inj hq12
        clear hq12
        obtain ⟨e14, hq14⟩ := Prod.mk.inj hq13
        clear hq13
        obtain ⟨e15, hq15⟩ := Prod.mk.inj hq14
        clear hq14
        obtain ⟨e16, hq16⟩ := Prod.mk.inj hq15
        clear hq15
        obtain ⟨e17, hq17⟩ := Prod.mk.inj hq16
        clear hq16
        obtain ⟨e18, hq18⟩ := Prod.mk.inj hq17
        clear hq17
        obtain ⟨e19, hq19⟩ := Prod.mk.inj hq18
        clear hq18
        subst e0
        subst e1
        subst e2
        subst e3
        subst e4
        subst e5
        subst e6
        subst e7
        subst e8
        subst e9
        subst e10
        subst e11
        subst e12
        subst e13
        subst e14
        subst e15
        subst e16
        subst e17
        subst e18
        subst e19
        subst hq19
        exact k_retV hx hb hr hlocks hP hD hS dX2_take_59
      · have h := (if_neg cc_1).symm.trans h
        refine lv_iconst (v := (0 : Int32)) hx hb dX2_take_17 (by decide) ?_
        refine lv_istore (lv' := [(4, .int (0 : Int32)), (0, .ref qv), (1, .int x1), (2, .int x2), (3, .int x3)]) hx hb dX2_take_18 hl (by decide) rfl (fun ls hl => ?_)
        exact w20 1000 x1 x2 x3 (0 : Int32) v_joined v_arrived v_lostInVain v_costs v_trueLengths v_longestList v_longestListArrived v_mostSteps v_dearer t_steps t_cost t_cause t_place t_computed t_list t_listed t_visited t_metLow t_metHigh y_far y_usable n_nodes n_links n_alive n_inMap n_low n_high n_length _ _ _ hP hD hS (lv_sub hl [1, 2, 3, 4, 0] rfl) h
  refine lv_aload_n hx hb dX2_take_0 rfl (lv_at hl 0 rfl) ?_
  refine k_callVV (qb := 0) [0] [0] [0] [(qv, .inr (2, [.ref qn, .ref qy, .ref qt, .int ((f_X2_forget v_joined v_arrived v_lostInVain v_costs v_trueLengths v_longestList v_longestListArrived v_mostSteps v_dearer).1), .int ((f_X2_forget v_joined v_arrived v_lostInVain v_costs v_trueLengths v_longestList v_longestListArrived v_mostSteps v_dearer).2.1), .int ((f_X2_forget v_joined v_arrived v_lostInVain v_costs v_trueLengths v_longestList v_longestListArrived v_mostSteps v_dearer).2.2.1), .int ((f_X2_forget v_joined v_arrived v_lostInVain v_costs v_trueLengths v_longestList v_longestListArrived v_mostSteps v_dearer).2.2.2.1), .int ((f_X2_forget v_joined v_arrived v_lostInVain v_costs v_trueLengths v_longestList v_longestListArrived v_mostSteps v_dearer).2.2.2.2.1), .int ((f_X2_forget v_joined v_arrived v_lostInVain v_costs v_trueLengths v_longestList v_longestListArrived v_mostSteps v_dearer).2.2.2.2.2.1), .int ((f_X2_forget v_joined v_arrived v_lostInVain v_costs v_trueLengths v_longestList v_longestListArrived v_mostSteps v_dearer).2.2.2.2.2.2.1), .int ((f_X2_forget v_joined v_arrived v_lostInVain v_costs v_trueLengths v_longestList v_longestListArrived v_mostSteps v_dearer).2.2.2.2.2.2.2.1), .int ((f_X2_forget v_joined v_arrived v_lostInVain v_costs v_trueLengths v_longestList v_longestListArrived v_mostSteps v_dearer).2.2.2.2.2.2.2.2)]))] (As := []) (rest := []) ⟨hx, hb, hml, hown, hts⟩ hT hZ hA hP hD hS (c_X2_forget l D cI cZ cN aK aV qv qt qy qn v_joined v_arrived v_lostInVain v_costs v_trueLengths v_longestList v_longestListArrived v_mostSteps v_dearer _ _ _ _ _ _ _ _ _ rfl) ⟨callB_of 0 hts (k_good u_559) rfl rfl rfl (hu _ u_49) (hu _ u_556) (by decide +kernel) ⟨Nat.le_of_ble_eq_true rfl, Nat.le_of_ble_eq_true rfl⟩, hu _ u_558, hu _ u_8⟩ rfl rfl rfl (by decide) (by decide) (by decide) rfl rfl rfl rfl hl.1 rfl (Nat.le_of_ble_eq_true rfl) dX2_take_1 (fun H locs hP hD hS => ?_)
  have hP : va_P D vwCl [(qv, .inr (2, [.ref qn, .ref qy, .ref qt, .int ((f_X2_forget v_joined v_arrived v_lostInVain v_costs v_trueLengths v_longestList v_longestListArrived v_mostSteps v_dearer).1), .int ((f_X2_forget v_joined v_arrived v_lostInVain v_costs v_trueLengths v_longestList v_longestListArrived v_mostSteps v_dearer).2.1), .int ((f_X2_forget v_joined v_arrived v_lostInVain v_costs v_trueLengths v_longestList v_longestListArrived v_mostSteps v_dearer).2.2.1), .int ((f_X2_forget v_joined v_arrived v_lostInVain v_costs v_trueLengths v_longestList v_longestListArrived v_mostSteps v_dearer).2.2.2.1), .int ((f_X2_forget v_joined v_arrived v_lostInVain v_costs v_trueLengths v_longestList v_longestListArrived v_mostSteps v_dearer).2.2.2.2.1), .int ((f_X2_forget v_joined v_arrived v_lostInVain v_costs v_trueLengths v_longestList v_longestListArrived v_mostSteps v_dearer).2.2.2.2.2.1), .int ((f_X2_forget v_joined v_arrived v_lostInVain v_costs v_trueLengths v_longestList v_longestListArrived v_mostSteps v_dearer).2.2.2.2.2.2.1), .int ((f_X2_forget v_joined v_arrived v_lostInVain v_costs v_trueLengths v_longestList v_longestListArrived v_mostSteps v_dearer).2.2.2.2.2.2.2.1), .int ((f_X2_forget v_joined v_arrived v_lostInVain v_costs v_trueLengths v_longestList v_longestListArrived v_mostSteps v_dearer).2.2.2.2.2.2.2.2)])), (qt, .inr (0, [.ref qn, .ref qy, .int t_steps, .int t_cost, .int t_cause, .int t_place, .int t_computed, .int t_list, .int t_listed, .ref qt_visited, .ref qt_metLow, .ref qt_metHigh])), (qt_visited, .inl (cI, 41, .inl t_visited)), (qt_metLow, .inl (cI, 18, .inl t_metLow)), (qt_metHigh, .inl (cI, 18, .inl t_metHigh)), (qy, .inr (4, [.ref qn, .ref qy_far, .int y_usable])), (qy_far, .inl (cI, 9, .inl y_far)), (qn, .inr (1, [.int n_nodes, .int n_links, .int n_room, .int n_alive, .int n_inMap, .ref qn_low, .ref qn_high, .ref qn_length])), (qn_low, .inl (cI, 18, .inl n_low)), (qn_high, .inl (cI, 18, .inl n_high)), (qn_length, .inl (cI, 18, .inl n_length))] H := hP
  have hD : va_D A [(qv, .inr (2, [.ref qn, .ref qy, .ref qt, .int ((f_X2_forget v_joined v_arrived v_lostInVain v_costs v_trueLengths v_longestList v_longestListArrived v_mostSteps v_dearer).1), .int ((f_X2_forget v_joined v_arrived v_lostInVain v_costs v_trueLengths v_longestList v_longestListArrived v_mostSteps v_dearer).2.1), .int ((f_X2_forget v_joined v_arrived v_lostInVain v_costs v_trueLengths v_longestList v_longestListArrived v_mostSteps v_dearer).2.2.1), .int ((f_X2_forget v_joined v_arrived v_lostInVain v_costs v_trueLengths v_longestList v_longestListArrived v_mostSteps v_dearer).2.2.2.1), .int ((f_X2_forget v_joined v_arrived v_lostInVain v_costs v_trueLengths v_longestList v_longestListArrived v_mostSteps v_dearer).2.2.2.2.1), .int ((f_X2_forget v_joined v_arrived v_lostInVain v_costs v_trueLengths v_longestList v_longestListArrived v_mostSteps v_dearer).2.2.2.2.2.1), .int ((f_X2_forget v_joined v_arrived v_lostInVain v_costs v_trueLengths v_longestList v_longestListArrived v_mostSteps v_dearer).2.2.2.2.2.2.1), .int ((f_X2_forget v_joined v_arrived v_lostInVain v_costs v_trueLengths v_longestList v_longestListArrived v_mostSteps v_dearer).2.2.2.2.2.2.2.1), .int ((f_X2_forget v_joined v_arrived v_lostInVain v_costs v_trueLengths v_longestList v_longestListArrived v_mostSteps v_dearer).2.2.2.2.2.2.2.2)])), (qt, .inr (0, [.ref qn, .ref qy, .int t_steps, .int t_cost, .int t_cause, .int t_place, .int t_computed, .int t_list, .int t_listed, .ref qt_visited, .ref qt_metLow, .ref qt_metHigh])), (qt_visited, .inl (cI, 41, .inl t_visited)), (qt_metLow, .inl (cI, 18, .inl t_metLow)), (qt_metHigh, .inl (cI, 18, .inl t_metHigh)), (qy, .inr (4, [.ref qn, .ref qy_far, .int y_usable])), (qy_far, .inl (cI, 9, .inl y_far)), (qn, .inr (1, [.int n_nodes, .int n_links, .int n_room, .int n_alive, .int n_inMap, .ref qn_low, .ref qn_high, .ref qn_length])), (qn_low, .inl (cI, 18, .inl n_low)), (qn_high, .inl (cI, 18, .inl n_high)), (qn_length, .inl (cI, 18, .inl n_length))] := hD
  refine lv_iconst (v := (0 : Int32)) hx hb dX2_take_4 (by decide) ?_
  refine lv_istore_n (lv' := [(3, .int (0 : Int32)), (0, .ref qv), (1, .int p1), (2, .int p2)]) hx hb dX2_take_5 rfl hl (by decide) rfl (fun ls hl => ?_)
  exact w6 1000 p1 p2 (0 : Int32) ((f_X2_forget v_joined v_arrived v_lostInVain v_costs v_trueLengths v_longestList v_longestListArrived v_mostSteps v_dearer).1) ((f_X2_forget v_joined v_arrived v_lostInVain v_costs v_trueLengths v_longestList v_longestListArrived v_mostSteps v_dearer).2.1) ((f_X2_forget v_joined v_arrived v_lostInVain v_costs v_trueLengths v_longestList v_longestListArrived v_mostSteps v_dearer).2.2.1) ((f_X2_forget v_joined v_arrived v_lostInVain v_costs v_trueLengths v_longestList v_longestListArrived v_mostSteps v_dearer).2.2.2.1) ((f_X2_forget v_joined v_arrived v_lostInVain v_costs v_trueLengths v_longestList v_longestListArrived v_mostSteps v_dearer).2.2.2.2.1) ((f_X2_forget v_joined v_arrived v_lostInVain v_costs v_trueLengths v_longestList v_longestListArrived v_mostSteps v_dearer).2.2.2.2.2.1) ((f_X2_forget v_joined v_arrived v_lostInVain v_costs v_trueLengths v_longestList v_longestListArrived v_mostSteps v_dearer).2.2.2.2.2.2.1) ((f_X2_forget v_joined v_arrived v_lostInVain v_costs v_trueLengths v_longestList v_longestListArrived v_mostSteps v_dearer).2.2.2.2.2.2.2.1) ((f_X2_forget v_joined v_arrived v_lostInVain v_costs v_trueLengths v_longestList v_longestListArrived v_mostSteps v_dearer).2.2.2.2.2.2.2.2) t_steps t_cost t_cause t_place t_computed t_list t_listed t_visited t_metLow t_metHigh y_far y_usable n_nodes n_links n_alive n_inMap n_low n_high n_length _ _ _ hP hD hS (lv_sub hl [1, 2, 3, 0] rfl) h
