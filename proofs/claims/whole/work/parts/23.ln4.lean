def f_X5_send_b47  (s0 : Int32) (s1 : Int32) (s2 : Int32) (x_letterSent : Int32) (x_letterFits : Int32) (n_nodes : Int32) (n_links : Int32) (n_room : Int32) (n_alive : Int32) (n_inMap : Int32) (n_low : (Nat → Int32)) (n_high : (Nat → Int32)) (n_length : (Nat → Int32)) (y_far : (Nat → Int32)) (y_usable : Int32) (t_steps : Int32) (t_cost : Int32) (t_cause : Int32) (t_place : Int32) (t_computed : Int32) (t_list : Int32) (t_listed : Int32) (t_visited : (Nat → Int32)) (t_metLow : (Nat → Int32)) (t_metHigh : (Nat → Int32)) : Option (Int32 × Int32 × Int32 × (Nat → Int32) × Int32 × Int32 × Int32 × Int32 × Int32 × Int32 × Int32 × Int32 × (Nat → Int32) × (Nat → Int32) × (Nat → Int32)) :=
  (f_X0_travel s2 s1 s0 n_room t_steps t_cost t_cause t_place t_computed t_list t_listed t_visited t_metLow t_metHigh y_far y_usable n_nodes n_links n_alive n_inMap n_low n_high n_length).bind fun ⟨o_5, o_6, o_7, o_8, o_9, o_10, o_11, o_12, o_13, o_14, o_15, o_16⟩ =>
  if (f_X0_hasArrived o_7) = (0 : Int32) then
    some (((-10 : Int32) - o_7), (1 : Int32), (1 : Int32), o_15, o_16, o_5, o_6, o_7, o_8, o_9, o_10, o_11, o_12, o_13, o_14)
  else
    some (o_5, (1 : Int32), (1 : Int32), o_15, o_16, o_5, o_6, o_7, o_8, o_9, o_10, o_11, o_12, o_13, o_14)
def f_X5_send (p1 : Int32) (p2 : Int32) (p3 : Int32) (x_letterSent : Int32) (x_letterFits : Int32) (n_nodes : Int32) (n_links : Int32) (n_room : Int32) (n_alive : Int32) (n_inMap : Int32) (n_low : (Nat → Int32)) (n_high : (Nat → Int32)) (n_length : (Nat → Int32)) (y_far : (Nat → Int32)) (y_usable : Int32) (t_steps : Int32) (t_cost : Int32) (t_cause : Int32) (t_place : Int32) (t_computed : Int32) (t_list : Int32) (t_listed : Int32) (t_visited : (Nat → Int32)) (t_metLow : (Nat → Int32)) (t_metHigh : (Nat → Int32)) : Option (Int32 × Int32 × Int32 × (Nat → Int32) × Int32 × Int32 × Int32 × Int32 × Int32 × Int32 × Int32 × Int32 × (Nat → Int32) × (Nat → Int32) × (Nat → Int32)) :=
  if (f_X1_hasNode p1 n_nodes) = (0 : Int32) then
    some ((-1 : Int32), x_letterSent, x_letterFits, y_far, y_usable, t_steps, t_cost, t_cause, t_place, t_computed, t_list, t_listed, t_visited, t_metLow, t_metHigh)
  else
    if (f_X1_hasNode p2 n_nodes) = (0 : Int32) then
      some ((-1 : Int32), x_letterSent, x_letterFits, y_far, y_usable, t_steps, t_cost, t_cause, t_place, t_computed, t_list, t_listed, t_visited, t_metLow, t_metHigh)
    else
      if (f_X5_isFlag p3) = (0 : Int32) then
        some ((-1 : Int32), x_letterSent, x_letterFits, y_far, y_usable, t_steps, t_cost, t_cause, t_place, t_computed, t_list, t_listed, t_visited, t_metLow, t_metHigh)
      else
        if p3 = (1 : Int32) then
          f_X5_send_b47  (1 : Int32) p2 p1 x_letterSent x_letterFits n_nodes n_links n_room n_alive n_inMap n_low n_high n_length y_far y_usable t_steps t_cost t_cause t_place t_computed t_list t_listed t_visited t_metLow t_metHigh
        else
          f_X5_send_b47  (0 : Int32) p2 p1 x_letterSent x_letterFits n_nodes n_links n_room n_alive n_inMap n_low n_high n_length y_far y_usable t_steps t_cost t_cause t_place t_computed t_list t_listed t_visited t_metLow t_metHigh
set_option maxHeartbeats 4000000 in
set_option maxRecDepth 100000 in
theorem c_X5_send (l : Launch) (D : va_G) (cI cZ cN : ClassId) (aK aV : Nat → Nat)  (qx : Nat) (qx_history : Nat) (qx_images : Nat) (qx_kept : Nat) (qn : Nat) (qn_low : Nat) (qn_high : Nat) (qn_length : Nat) (qd : Nat) (qy : Nat) (qy_far : Nat) (qt : Nat) (qt_visited : Nat) (qt_metLow : Nat) (qt_metHigh : Nat) (qv : Nat) (qz : Nat) (x_undoable : Int32) (x_letterSent : Int32) (x_letterFits : Int32) (n_nodes : Int32) (n_links : Int32) (n_room : Int32) (n_alive : Int32) (n_inMap : Int32) (n_low : (Nat → Int32)) (n_high : (Nat → Int32)) (n_length : (Nat → Int32)) (y_far : (Nat → Int32)) (y_usable : Int32) (t_steps : Int32) (t_cost : Int32) (t_cause : Int32) (t_place : Int32) (t_computed : Int32) (t_list : Int32) (t_listed : Int32) (t_visited : (Nat → Int32)) (t_metLow : (Nat → Int32)) (t_metHigh : (Nat → Int32)) (p1 p2 p3 : Int32) (r : Int32) (z_x_letterSent : Int32) (z_x_letterFits : Int32) (z_y_far : (Nat → Int32)) (z_y_usable : Int32) (z_t_steps : Int32) (z_t_cost : Int32) (z_t_cause : Int32) (z_t_place : Int32) (z_t_computed : Int32) (z_t_list : Int32) (z_t_listed : Int32) (z_t_visited : (Nat → Int32)) (z_t_metLow : (Nat → Int32)) (z_t_metHigh : (Nat → Int32)) (h : f_X5_send p1 p2 p3 x_letterSent x_letterFits n_nodes n_links n_room n_alive n_inMap n_low n_high n_length y_far y_usable t_steps t_cost t_cause t_place t_computed t_list t_listed t_visited t_metLow t_metHigh = some (r, z_x_letterSent, z_x_letterFits, z_y_far, z_y_usable, z_t_steps, z_t_cost, z_t_cause, z_t_place, z_t_computed, z_t_list, z_t_listed, z_t_visited, z_t_metLow, z_t_metHigh)) : CtI l D cI cZ cN aK aV yX5_send (k_W yX5_send cX5_send 4 (some .int)) { frames := 4, cells := 0, slots := 0, locals := 97 } [.ref qx, .int p1, .int p2, .int p3] [(qy, .inr (4, [.ref qn, .ref qy_far, .int y_usable])), (qy_far, .inl (cI, 9, .inl y_far)), (qt, .inr (0, [.ref qn, .ref qy, .int t_steps, .int t_cost, .int t_cause, .int t_place, .int t_computed, .int t_list, .int t_listed, .ref qt_visited, .ref qt_metLow, .ref qt_metHigh])), (qt_visited, .inl (cI, 41, .inl t_visited)), (qt_metLow, .inl (cI, 18, .inl t_metLow)), (qt_metHigh, .inl (cI, 18, .inl t_metHigh)), (qx, .inr (5, [.ref qn, .ref qd, .ref qx_history, .int x_undoable, .ref qx_images, .ref qx_kept, .ref qy, .ref qt, .int x_letterSent, .int x_letterFits, .ref qv, .ref qz])), (qn, .inr (1, [.int n_nodes, .int n_links, .int n_room, .int n_alive, .int n_inMap, .ref qn_low, .ref qn_high, .ref qn_length])), (qn_low, .inl (cI, 18, .inl n_low)), (qn_high, .inl (cI, 18, .inl n_high)), (qn_length, .inl (cI, 18, .inl n_length))] r [(qy, .inr (4, [.ref qn, .ref qy_far, .int z_y_usable])), (qy_far, .inl (cI, 9, .inl z_y_far)), (qt, .inr (0, [.ref qn, .ref qy, .int z_t_steps, .int z_t_cost, .int z_t_cause, .int z_t_place, .int z_t_computed, .int z_t_list, .int z_t_listed, .ref qt_visited, .ref qt_metLow, .ref qt_metHigh])), (qt_visited, .inl (cI, 41, .inl z_t_visited)), (qt_metLow, .inl (cI, 18, .inl z_t_metLow)), (qt_metHigh, .inl (cI, 18, .inl z_t_metHigh)), (qx, .inr (5, [.ref qn, .ref qd, .ref qx_history, .int x_undoable, .ref qx_images, .ref qx_kept, .ref qy, .ref qt, .int z_x_letterSent, .int z_x_letterFits, .ref qv, .ref qz])), (qn, .inr (1, [.int n_nodes, .int n_links, .int n_room, .int n_alive, .int n_inMap, .ref qn_low, .ref qn_high, .ref qn_length])), (qn_low, .inl (cI, 18, .inl n_low)), (qn_high, .inl (cI, 18, .inl n_high)), (qn_length, .inl (cI, 18, .inl n_length))] := by
  refine k_startI (by decide) (Nat.le_of_ble_eq_true rfl) ?_
  intro p e s m below meth c A ls hx hb hr hml hown hts hlocks hT hZ hA hP hD hS hl
  have hK := hT.1
  have hu : ∀ w ∈ k_U, w.before ([.ref qx, .int p1, .int p2, .int p3] : List Value).toArray s = true := fun w h => hts w (List.mem_cons_of_mem _ h)
  have hown : s.vm.findClass RX5 = some m.cls := hown
  have hl : lv_has ls 4 [(0, .ref qx), (1, .int p1), (2, .int p2), (3, .int p3)] := hl
  unfold f_X5_send at h
  have w47 : ∀  (s0 : Int32) (s1 : Int32) (s2 : Int32) (x_letterSent : Int32) (x_letterFits : Int32) (n_nodes : Int32) (n_links : Int32) (n_room : Int32) (n_alive : Int32) (n_inMap : Int32) (n_low : (Nat → Int32)) (n_high : (Nat → Int32)) (n_length : (Nat → Int32)) (y_far : (Nat → Int32)) (y_usable : Int32) (t_steps : Int32) (t_cost : Int32) (t_cause : Int32) (t_place : Int32) (t_computed : Int32) (t_list : Int32) (t_listed : Int32) (t_visited : (Nat → Int32)) (t_metLow : (Nat → Int32)) (t_metHigh : (Nat → Int32)) (H : Heap) (locs : List Loc) (ls : Array Slot), va_P D vwCl [(qy, .inr (4, [.ref qn, .ref qy_far, .int y_usable])), (qy_far, .inl (cI, 9, .inl y_far)), (qt, .inr (0, [.ref qn, .ref qy, .int t_steps, .int t_cost, .int t_cause, .int t_place, .int t_computed, .int t_list, .int t_listed, .ref qt_visited, .ref qt_metLow, .ref qt_metHigh])), (qt_visited, .inl (cI, 41, .inl t_visited)), (qt_metLow, .inl (cI, 18, .inl t_metLow)), (qt_metHigh, .inl (cI, 18, .inl t_metHigh)), (qx, .inr (5, [.ref qn, .ref qd, .ref qx_history, .int x_undoable, .ref qx_images, .ref qx_kept, .ref qy, .ref qt, .int x_letterSent, .int x_letterFits, .ref qv, .ref qz])), (qn, .inr (1, [.int n_nodes, .int n_links, .int n_room, .int n_alive, .int n_inMap, .ref qn_low, .ref qn_high, .ref qn_length])), (qn_low, .inl (cI, 18, .inl n_low)), (qn_high, .inl (cI, 18, .inl n_high)), (qn_length, .inl (cI, 18, .inl n_length))] H → va_D A [(qy, .inr (4, [.ref qn, .ref qy_far, .int y_usable])), (qy_far, .inl (cI, 9, .inl y_far)), (qt, .inr (0, [.ref qn, .ref qy, .int t_steps, .int t_cost, .int t_cause, .int t_place, .int t_computed, .int t_list, .int t_listed, .ref qt_visited, .ref qt_metLow, .ref qt_metHigh])), (qt_visited, .inl (cI, 41, .inl t_visited)), (qt_metLow, .inl (cI, 18, .inl t_metLow)), (qt_metHigh, .inl (cI, 18, .inl t_metHigh)), (qx, .inr (5, [.ref qn, .ref qd, .ref qx_history, .int x_undoable, .ref qx_images, .ref qx_kept, .ref qy, .ref qt, .int x_letterSent, .int x_letterFits, .ref qv, .ref qz])), (qn, .inr (1, [.int n_nodes, .int n_links, .int n_room, .int n_alive, .int n_inMap, .ref qn_low, .ref qn_high, .ref qn_length])), (qn_low, .inl (cI, 18, .inl n_low)), (qn_high, .inl (cI, 18, .inl n_high)), (qn_length, .inl (cI, 18, .inl n_length))] → va_S A s.heap H locs → lv_has ls 4 [(0, .ref qx)] → f_X5_send_b47 s0 s1 s2 x_letterSent x_letterFits n_nodes n_links n_room n_alive n_inMap n_low n_high n_length y_far y_usable t_steps t_cost t_cause t_place t_computed t_list t_listed t_visited t_metLow t_metHigh = some (r, z_x_letterSent, z_x_letterFits, z_y_far, z_y_usable, z_t_steps, z_t_cost, z_t_cause, z_t_place, z_t_computed, z_t_list, z_t_listed, z_t_visited, z_t_metLow, z_t_metHigh) → W p l e { frames := 4, cells := 0, slots := 0, locals := 97 } s m ([.ref qx, .int p1, .int p2, .int p3] : List Value).toArray below meth c H locs 0 0 (MQ below (k_QI D r [(qy, .inr (4, [.ref qn, .ref qy_far, .int z_y_usable])), (qy_far, .inl (cI, 9, .inl z_y_far)), (qt, .inr (0, [.ref qn, .ref qy, .int z_t_steps, .int z_t_cost, .int z_t_cause, .int z_t_place, .int z_t_computed, .int z_t_list, .int z_t_listed, .ref qt_visited, .ref qt_metLow, .ref qt_metHigh])), (qt_visited, .inl (cI, 41, .inl z_t_visited)), (qt_metLow, .inl (cI, 18, .inl z_t_metLow)), (qt_metHigh, .inl (cI, 18, .inl z_t_metHigh)), (qx, .inr (5, [.ref qn, .ref qd, .ref qx_history, .int x_undoable, .ref qx_images, .ref qx_kept, .ref qy, .ref qt, .int z_x_letterSent, .int z_x_letterFits, .ref qv, .ref qz])), (qn, .inr (1, [.int n_nodes, .int n_links, .int n_room, .int n_alive, .int n_inMap, .ref qn_low, .ref qn_high, .ref qn_length])), (qn_low, .inl (cI, 18, .inl n_low)), (qn_high, .inl (cI, 18, .inl n_high)), (qn_length, .inl (cI, 18, .inl n_length))] A) ([.ref qx, .int p1, .int p2, .int p3] : List Value).toArray s 0 0 A) (F0 m 47 ls [.int s0, .int s1, .int s2, .ref qt]) := by
    intro s0 s1 s2 x_letterSent x_letterFits n_nodes n_links n_room n_alive n_inMap n_low n_high n_length y_far y_usable t_steps t_cost t_cause t_place t_computed t_list t_listed t_visited t_metLow t_metHigh H locs ls hP hD hS hl h
    unfold f_X5_send_b47 at h
    refine lv_aload_n hx hb dX5_send_47 rfl (lv_at hl 0 rfl) ?_
    refine va_get (D := D) (ci := 5) (v := .ref qn) (C := RX5) (T := TX5) (N := 12) hx hb hu k_iX5 hown hK hP 6 rfl rfl 0 (by decide) (hu _ u_283) (fun _ h9 => h9) rfl dX5_send_48 ?_
    refine va_get (D := D) (ci := 1) (v := .int n_room) (C := RX1) (T := TX1) (N := 8) hx hb hu k_iX1 hown hK hP 7 rfl rfl 2 (by decide) (hu _ u_81) (fun _ h9 => h9) rfl dX5_send_51 ?_
    obtain ⟨⟨o_5, o_6, o_7, o_8, o_9, o_10, o_11, o_12, o_13, o_14, o_15, o_16⟩, hc_17, h⟩ := ob_bind h
    dsimp only at h
    refine k_callVV (qb := 0) [2, 3, 4, 5, 0, 1, 7, 8, 9, 10] [0, 1, 2, 3, 4, 5] [2, 3, 4, 5, 0, 1] [(qt, .inr (0, [.ref qn, .ref qy, .int o_5, .int o_6, .int o_7, .int o_8, .int o_9, .int o_10, .int o_11, .ref qt_visited, .ref qt_metLow, .ref qt_metHigh])), (qt_visited, .inl (cI, 41, .inl o_12)), (qt_metLow, .inl (cI, 18, .inl o_13)), (qt_metHigh, .inl (cI, 18, .inl o_14)), (qy, .inr (4, [.ref qn, .ref qy_far, .int o_16])), (qy_far, .inl (cI, 9, .inl o_15))] (As := [.int s2, .int s1, .int s0, .int n_room]) (rest := []) ⟨hx, hb, hml, hown, hts⟩ hT hZ hA hP hD hS (c_X0_travel l D cI cZ cN aK aV qt qt_visited qt_metLow qt_metHigh qy qy_far qn qn_low qn_high qn_length t_steps t_cost t_cause t_place t_computed t_list t_listed t_visited t_metLow t_metHigh y_far y_usable n_nodes n_links n_room n_alive n_inMap n_low n_high n_length s2 s1 s0 n_room o_5 o_6 o_7 o_8 o_9 o_10 o_11 o_12 o_13 o_14 o_15 o_16 hc_17) ⟨callB_of 4 hts (k_good u_505) rfl rfl rfl (hu _ u_48) (hu _ u_502) (by decide +kernel) ⟨Nat.le_of_ble_eq_true rfl, Nat.le_of_ble_eq_true rfl⟩, hu _ u_503, hu _ u_504⟩ rfl rfl rfl (by decide) (by decide) (by decide) rfl rfl rfl rfl hl.1 rfl (Nat.le_of_ble_eq_true rfl) dX5_send_54 (fun H locs hP hD hS => ?_)
    have hP : va_P D vwCl [(qy, .inr (4, [.ref qn, .ref qy_far, .int o_16])), (qy_far, .inl (cI, 9, .inl o_15)), (qt, .inr (0, [.ref qn, .ref qy, .int o_5, .int o_6, .int o_7, .int o_8, .int o_9, .int o_10, .int o_11, .ref qt_visited, .ref qt_metLow, .ref qt_metHigh])), (qt_visited, .inl (cI, 41, .inl o_12)), (qt_metLow, .inl (cI, 18, .inl o_13)), (qt_metHigh, .inl (cI, 18, .inl o_14)), (qx, .inr (5, [.ref qn, .ref qd, .ref qx_history, .int x_undoable, .ref qx_images, .ref qx_kept, .ref qy, .ref qt, .int x_letterSent, .int x_letterFits, .ref qv, .ref qz])), (qn, .inr (1, [.int n_nodes, .int n_links, .int n_room, .int n_alive, .int n_inMap, .ref qn_low, .ref qn_high, .ref qn_length])), (qn_low, .inl (cI, 18, .inl n_low)), (qn_high, .inl (cI, 18, .inl n_high)), (qn_length, .inl (cI, 18, .inl n_length))] H := hP
    have hD : va_D A [(qy, .inr (4, [.ref qn, .ref qy_far, .int o_16])), (qy_far, .inl (cI, 9, .inl o_15)), (qt, .inr (0, [.ref qn, .ref qy, .int o_5, .int o_6, .int o_7, .int o_8, .int o_9, .int o_10, .int o_11, .ref qt_visited, .ref qt_metLow, .ref qt_metHigh])), (qt_visited, .inl (cI, 41, .inl o_12)), (qt_metLow, .inl (cI, 18, .inl o_13)), (qt_metHigh, .inl (cI, 18, .inl o_14)), (qx, .inr (5, [.ref qn, .ref qd, .ref qx_history, .int x_undoable, .ref qx_images, .ref qx_kept, .ref qy, .ref qt, .int x_letterSent, .int x_letterFits, .ref qv, .ref qz])), (qn, .inr (1, [.int n_nodes, .int n_links, .int n_room, .int n_alive, .int n_inMap, .ref qn_low, .ref qn_high, .ref qn_length])), (qn_low, .inl (cI, 18, .inl n_low)), (qn_high, .inl (cI, 18, .inl n_high)), (qn_length, .inl (cI, 18, .inl n_length))] := hD
    refine lv_aload_n hx hb dX5_send_57 rfl (lv_at hl 0 rfl) ?_
    refine lv_iconst (v := (1 : Int32)) hx hb dX5_send_58 (by decide) ?_
    refine va_put (D := D) (ci := 5) (v := .int (1 : Int32)) (ty := .boolean) (C := RX5) (T := TX5) (N := 12) hx hb hu k_iX5 tyX5 tyX5_ok nmX5 hown hK hP hD hS 6 rfl rfl 8 (by decide) (hu _ u_291) (fun _ h9 => h9) rfl (by decide +kernel) rfl rfl (Nat.le_of_ble_eq_true rfl) dX5_send_59 (fun H locs hP hD hS => ?_)
    have hP : va_P D vwCl [(qy, .inr (4, [.ref qn, .ref qy_far, .int o_16])), (qy_far, .inl (cI, 9, .inl o_15)), (qt, .inr (0, [.ref qn, .ref qy, .int o_5, .int o_6, .int o_7, .int o_8, .int o_9, .int o_10, .int o_11, .ref qt_visited, .ref qt_metLow, .ref qt_metHigh])), (qt_visited, .inl (cI, 41, .inl o_12)), (qt_metLow, .inl (cI, 18, .inl o_13)), (qt_metHigh, .inl (cI, 18, .inl o_14)), (qx, .inr (5, [.ref qn, .ref qd, .ref qx_history, .int x_undoable, .ref qx_images, .ref qx_kept, .ref qy, .ref qt, .int (1 : Int32), .int x_letterFits, .ref qv, .ref qz])), (qn, .inr (1, [.int n_nodes, .int n_links, .int n_room, .int n_alive, .int n_inMap, .ref qn_low, .ref qn_high, .ref qn_length])), (qn_low, .inl (cI, 18, .inl n_low)), (qn_high, .inl (cI, 18, .inl n_high)), (qn_length, .inl (cI, 18, .inl n_length))] H := hP
    have hD : va_D A [(qy, .inr (4, [.ref qn, .ref qy_far, .int o_16])), (qy_far, .inl (cI, 9, .inl o_15)), (qt, .inr (0, [.ref qn, .ref qy, .int o_5, .int o_6, .int o_7, .int o_8, .int o_9, .int o_10, .int o_11, .ref qt_visited, .ref qt_metLow, .ref qt_metHigh])), (qt_visited, .inl (cI, 41, .inl o_12)), (qt_metLow, .inl (cI, 18, .inl o_13)), (qt_metHigh, .inl (cI, 18, .inl o_14)), (qx, .inr (5, [.ref qn, .ref qd, .ref qx_history, .int x_undoable, .ref qx_images, .ref qx_kept, .ref qy, .ref qt, .int (1 : Int32), .int x_letterFits, .ref qv, .ref qz])), (qn, .inr (1, [.int n_nodes, .int n_links, .int n_room, .int n_alive, .int n_inMap, .ref qn_low, .ref qn_high, .ref qn_length])), (qn_low, .inl (cI, 18, .inl n_low)), (qn_high, .inl (cI, 18, .inl n_high)), (qn_length, .inl (cI, 18, .inl n_length))] := hD
    refine lv_aload_n hx hb dX5_send_62 rfl (lv_at hl 0 rfl) ?_
    refine lv_iconst (v := (1 : Int32)) hx hb dX5_send_63 (by decide) ?_
    refine va_put (D := D) (ci := 5) (v := .int (1 : Int32)) (ty := .boolean) (C := RX5) (T := TX5) (N := 12) hx hb hu k_iX5 tyX5 tyX5_ok nmX5 hown hK hP hD hS 6 rfl rfl 9 (by decide) (hu _ u_292) (fun _ h9 => h9) rfl (by decide +kernel) rfl rfl (Nat.le_of_ble_eq_true rfl) dX5_send_64 (fun H locs hP hD hS => ?_)
    have hP : va_P D vwCl [(qy, .inr (4, [.ref qn, .ref qy_far, .int o_16])), (qy_far, .inl (cI, 9, .inl o_15)), (qt, .inr (0, [.ref qn, .ref qy, .int o_5, .int o_6, .int o_7, .int o_8, .int o_9, .int o_10, .int o_11, .ref qt_visited, .ref qt_metLow, .ref qt_metHigh])), (qt_visited, .inl (cI, 41, .inl o_12)), (qt_metLow, .inl (cI, 18, .inl o_13)), (qt_metHigh, .inl (cI, 18, .inl o_14)), (qx, .inr (5, [.ref qn, .ref qd, .ref qx_history, .int x_undoable, .ref qx_images, .ref qx_kept, .ref qy, .ref qt, .int (1 : Int32), .int (1 : Int32), .ref qv, .ref qz])), (qn, .inr (1, [.int n_nodes, .int n_links, .int n_room, .int n_alive, .int n_inMap, .ref qn_low, .ref qn_high, .ref qn_length])), (qn_low, .inl (cI, 18, .inl n_low)), (qn_high, .inl (cI, 18, .inl n_high)), (qn_length, .inl (cI, 18, .inl n_length))] H := hP
    have hD : va_D A [(qy, .inr (4, [.ref qn, .ref qy_far, .int o_16])), (qy_far, .inl (cI, 9, .inl o_15)), (qt, .inr (0, [.ref qn, .ref qy, .int o_5, .int o_6, .int o_7, .int o_8, .int o_9, .int o_10, .int o_11, .ref qt_visited, .ref qt_metLow, .ref qt_metHigh])), (qt_visited, .inl (cI, 41, .inl o_12)), (qt_metLow, .inl (cI, 18, .inl o_13)), (qt_metHigh, .inl (cI, 18, .inl o_14)), (qx, .inr (5, [.ref qn, .ref qd, .ref qx_history, .int x_undoable, .ref qx_images, .ref qx_kept, .ref qy, .ref qt, .int (1 : Int32), .int (1 : Int32), .ref qv, .ref qz])), (qn, .inr (1, [.int n_nodes, .int n_links, .int n_room, .int n_alive, .int n_inMap, .ref qn_low, .ref qn_high, .ref qn_length])), (qn_low, .inl (cI, 18, .inl n_low)), (qn_high, .inl (cI, 18, .inl n_high)), (qn_length, .inl (cI, 18, .inl n_length))] := hD
    refine lv_aload_n hx hb dX5_send_67 rfl (lv_at hl 0 rfl) ?_
    refine va_get (D := D) (ci := 5) (v := .ref qt) (C := RX5) (T := TX5) (N := 12) hx hb hu k_iX5 hown hK hP 6 rfl rfl 7 (by decide) (hu _ u_290) (fun _ h9 => h9) rfl dX5_send_68 ?_
    refine k_callVIr (qb := 0) [2] (As := []) (rest := []) ⟨hx, hb, hml, hown, hts⟩ hT hZ hA hP hD hS (c_X0_hasArrived l D cI cZ cN aK aV qt qt_visited qt_metLow qt_metHigh qy qn o_5 o_6 o_7 o_8 o_9 o_10 o_11 _ rfl) ⟨callB_of 0 hts (k_good u_535) rfl rfl rfl (hu _ u_48) (hu _ u_532) (by decide +kernel) ⟨Nat.le_of_ble_eq_true rfl, Nat.le_of_ble_eq_true rfl⟩, hu _ u_533, hu _ u_534⟩ rfl rfl rfl (by decide) rfl hl.1 rfl (Nat.le_of_ble_eq_true rfl) dX5_send_71 (fun H locs hP hD hS => ?_)
    refine lv_if_eq (tgt := 87) hx hb dX5_send_74 (by decide) (fun cc_18 => ?_) (fun cc_18 => ?_)
    · have h := (if_pos cc_18).symm.trans h
      refine lv_bipush (v := (-10 : Int32)) hx hb dX5_send_87 (by decide) ?_
      refine lv_aload_n hx hb dX5_send_89 rfl (lv_at hl 0 rfl) ?_
      refine va_get (D := D) (ci := 5) (v := .ref qt) (C := RX5) (T := TX5) (N := 12) hx hb hu k_iX5 hown hK hP 6 rfl rfl 7 (by decide) (hu _ u_290) (fun _ h9 => h9) rfl dX5_send_90 ?_
      refine va_get (D := D) (ci := 0) (v := .int o_7) (C := RX0) (T := TX0) (N := 12) hx hb hu k_iX0 hown hK hP 2 rfl rfl 4 (by decide) (hu _ u_153) (fun _ h9 => h9) rfl dX5_send_93 ?_
      refine lv_isub hx hb dX5_send_96 ?_
      have hq := Option.some.inj h
      clear h
      obtain ⟨e0, hq0⟩ := Prod.mk.inj hq
      clear hq
      obtain ⟨e1, hq1⟩ := Prod.mk.inj hq0
      clear hq0
      obtain ⟨e2, hq2⟩ := Prod.mk.inj hq1
      clear hq1
      obtain ⟨e3, hq3⟩ := Prod.mk.inj hq2
      clear hq2
      obtain ⟨e4, hq4⟩ := Prod.mk.inj hq3
      clear hq3
      obtain ⟨e5, hq5⟩ := Prod.mk.inj hq4
      clear hq4
      obtain ⟨e6, hq6⟩ := Prod.mk.inj hq5
      clear hq5
      obtain ⟨e7, hq7⟩ := Prod.mk.inj hq6
      clear hq6
      obtain ⟨e8, hq8⟩ := Prod.mk.inj hq7
      clear hq7
      obtain ⟨e9, hq9⟩ := Prod.mk.inj hq8
      clear hq8
      obtain ⟨e10, hq10⟩ := Prod.mk.inj hq9
      clear hq9
      obtain ⟨e11, hq11⟩ := Prod.mk.inj hq10
      clear hq10
      obtain ⟨e12, hq12⟩ := Prod.mk.inj hq11
      clear hq11
      obtain ⟨e13, hq13⟩ := Prod.mk.inj hq12
      clear hq12
      subst e0
      subst e1
      subst e2
      subst e3
      subst e4
      subst e5
      subst e6
      subst e7
      subst e8
      subst e9
      subst e10
      subst e11
      subst e12
      subst e13
      subst hq13
      exact k_retI hx hb hr hlocks hP hD hS dX5_send_97
    · have h := (if_neg cc_18).symm.trans h
      refine lv_aload_n hx hb dX5_send_77 rfl (lv_at hl 0 rfl) ?_
      refine va_get (D := D) (ci := 5) (v := .ref qt) (C := RX5) (T := TX5) (N := 12) hx hb hu k_iX5 hown hK hP 6 rfl rfl 7 (by decide) (hu _ u_290) (fun _ h9 => h9) rfl dX5_send_78 ?_
      refine va_get (D := D) (ci := 0) (v := .int o_5) (C := RX0) (T := TX0) (N := 12) hx hb hu k_iX0 hown hK hP 2 rfl rfl 2 (by decide) (hu _ u_148) (fun _ h9 => h9) rfl dX5_send_81 ?_
      refine lv_goto (tgt := 97) hx hb dX5_send_84 (by decide) ?_
      have hq := Option.some.inj h
      clear h
      obtain ⟨e0, hq0⟩ := Prod.mk.inj hq
      clear hq
      obtain ⟨e1, hq1⟩ := Prod.mk.inj hq0
      clear hq0
      obtain ⟨e2, hq2⟩ := Prod.mk.inj hq1
      clear hq1
      obtain ⟨e3, hq3⟩ := Prod.mk.inj hq2
      clear hq2
      obtain ⟨e4, hq4⟩ := Prod.mk.inj hq3
      clear hq3
      obtain ⟨e5, hq5⟩ := Prod.mk.inj hq4
      clear hq4
      obtain ⟨e6, hq6⟩ := Prod.mk.inj hq5
      clear hq5
      obtain ⟨e7, hq7⟩ := Prod.mk.inj hq6
      clear hq6
      obtain ⟨e8, hq8⟩ := Prod.mk.inj hq7
      clear hq7
      obtain ⟨e9, hq9⟩ := Prod.mk.inj hq8
      clear hq8
      obtain ⟨e10, hq10⟩ := Prod.mk.inj hq9
      clear hq9
      obtain ⟨e11, hq11⟩ := Prod.mk.inj hq10
      clear hq10
      obtain ⟨e12, hq12⟩ := Prod.mk.inj hq11
      clear hq11
      obtain ⟨e13, hq13⟩ := Prod.mk.inj hq12
      clear hq12
      subst e0
      subst e1
      subst e2
      subst e3
      subst e4
      subst e5
      subst e6
      subst e7
      subst e8
      subst e9
      subst e10
      subst e11
      subst e12
      subst e13
      subst hq13
      exact k_retI hx hb hr hlocks hP hD hS dX5_send_97
  refine lv_aload_n hx hb dX5_send_0 rfl (lv_at hl 0 rfl) ?_
  refine va_get (D := D) (ci := 5) (v := .ref qn) (C := RX5) (T := TX5) (N := 12) hx hb hu k_iX5 hown hK hP 6 rfl rfl 0 (by decide) (hu _ u_283) (fun _ h9 => h9) rfl dX5_send_1 ?_
  refine lv_iload_n hx hb dX5_send_4 rfl (lv_at hl 1 rfl) ?_
  refine k_callVIr (qb := 0) [7] (As := [.int p1]) (rest := []) ⟨hx, hb, hml, hown, hts⟩ hT hZ hA hP hD hS (c_X1_hasNode l D cI cZ cN aK aV qn qn_low qn_high qn_length n_nodes n_links n_room n_alive n_inMap p1 _ rfl) ⟨callB_of 1 hts (k_good u_351) rfl rfl rfl (hu _ u_46) (hu _ u_451) (by decide +kernel) ⟨Nat.le_of_ble_eq_true rfl, Nat.le_of_ble_eq_true rfl⟩, hu _ u_349, hu _ u_350⟩ rfl rfl rfl (by decide) rfl hl.1 rfl (Nat.le_of_ble_eq_true rfl) dX5_send_5 (fun H locs hP hD hS => ?_)
  refine lv_if_eq (tgt := 29) hx hb dX5_send_8 (by decide) (fun cc_1 => ?_) (fun cc_1 => ?_)
  · have h := (if_pos cc_1).symm.trans h
    refine lv_iconst (v := (-1 : Int32)) hx hb dX5_send_29 (by decide) ?_
    have hq := Option.some.inj h
    clear h
    obtain ⟨e0, hq0⟩ := Prod.mk.inj hq
    clear hq
    obtain ⟨e1, hq1⟩ := Prod.mk.inj hq0
    clear hq0
    obtain ⟨e2, hq2⟩ := Prod.mk.inj hq1
    clear hq1
    obtain ⟨e3, hq3⟩ := Prod.mk.inj hq2
    clear hq2
    obtain ⟨e4, hq4⟩ := Prod.mk.inj hq3
    clear hq3
    obtain ⟨e5, hq5⟩ := Prod.mk.inj hq4
    clear hq4
    obtain ⟨e6, hq6⟩ := Prod.mk.inj hq5
    clear hq5
    obtain ⟨e7, hq7⟩ := Prod.mk.inj hq6
    clear hq6
    obtain ⟨e8, hq8⟩ := Prod.mk.inj hq7
    clear hq7
    obtain ⟨e9, hq9⟩ := Prod.mk.inj hq8
    clear hq8
    obtain ⟨e10, hq10⟩ := Prod.mk.inj hq9
    clear hq9
    obtain ⟨e11, hq11⟩ := Prod.mk.inj hq10
    clear hq10
    obtain ⟨e12, hq12⟩ := Prod.mk.inj hq11
    clear hq11
    obtain ⟨e13, hq13⟩ := Prod.mk.inj hq12
    clear hq12
    subst e0
    subst e1
    subst e2
    subst e3
    subst e4
    subst e5
    subst e6
    subst e7
    subst e8
    subst e9
    subst e10
    subst e11
    subst e12
    subst e13
    subst hq13
    exact k_retI hx hb hr hlocks hP hD hS dX5_send_30
  · have h := (if_neg cc_1).symm.trans h
    refine lv_aload_n hx hb dX5_send_11 rfl (lv_at hl 0 rfl) ?_
    refine va_get (D := D) (ci := 5) (v := .ref qn) (C := RX5) (T := TX5) (N := 12) hx hb hu k_iX5 hown hK hP 6 rfl rfl 0 (by decide) (hu _ u_283) (fun _ h9 => h9) rfl dX5_send_12 ?_
    refine lv_iload_n hx hb dX5_send_15 rfl (lv_at hl 2 rfl) ?_
    refine k_callVIr (qb := 0) [7] (As := [.int p2]) (rest := []) ⟨hx, hb, hml, hown, hts⟩ hT hZ hA hP hD hS (c_X1_hasNode l D cI cZ cN aK aV qn qn_low qn_high qn_length n_nodes n_links n_room n_alive n_inMap p2 _ rfl) ⟨callB_of 1 hts (k_good u_351) rfl rfl rfl (hu _ u_46) (hu _ u_451) (by decide +kernel) ⟨Nat.le_of_ble_eq_true rfl, Nat.le_of_ble_eq_true rfl⟩, hu _ u_349, hu _ u_350⟩ rfl rfl rfl (by decide) rfl hl.1 rfl (Nat.le_of_ble_eq_true rfl) dX5_send_16 (fun H locs hP hD hS => ?_)
    refine lv_if_eq (tgt := 29) hx hb dX5_send_19 (by decide) (fun cc_2 => ?_) (fun cc_2 => ?_)
    · have h := (if_pos cc_2).symm.trans h
      refine lv_iconst (v := (-1 : Int32)) hx hb dX5_send_29 (by decide) ?_
      have hq := Option.some.inj h
      clear h
      obtain ⟨e0, hq0⟩ := Prod.mk.inj hq
      clear hq
      obtain ⟨e1, hq1⟩ := Prod.mk.inj hq0
      clear hq0
      obtain ⟨e2, hq2⟩ := Prod.mk.inj hq1
      clear hq1
      obtain ⟨e3, hq3⟩ := Prod.mk.inj hq2
      clear hq2
      obtain ⟨e4, hq4⟩ := Prod.mk.inj hq3
      clear hq3
      obtain ⟨e5, hq5⟩ := Prod.mk.inj hq4
      clear hq4
      obtain ⟨e6, hq6⟩ := Prod.mk.inj hq5
      clear hq5
      obtain ⟨e7, hq7⟩ := Prod.mk.inj hq6
      clear hq6
      obtain ⟨e8, hq8⟩ := Prod.mk.inj hq7
      clear hq7
      obtain ⟨e9, hq9⟩ := Prod.mk.inj hq8
      clear hq8
      obtain ⟨e10, hq10⟩ := Prod.mk.inj hq9
      clear hq9
      obtain ⟨e11, hq11⟩ := Prod.mk.inj hq10
      clear hq10
      obtain ⟨e12, hq12⟩ := Prod.mk.inj hq11
      clear hq11
      obtain ⟨e13, hq13⟩ := Prod.mk.inj hq12
      clear hq12
      subst e0
      subst e1
      subst e2
      subst e3
      subst e4
      subst e5
      subst e6
      subst e7
      subst e8
      subst e9
      subst e10
      subst e11
      subst e12
      subst e13
      subst hq13
      exact k_retI hx hb hr hlocks hP hD hS dX5_send_30
    · have h := (if_neg cc_2).symm.trans h
      refine lv_iload_n hx hb dX5_send_22 rfl (lv_at hl 3 rfl) ?_
      refine k_call0 (As := [.int p3]) (rest := []) ⟨hx, hb, hml, hown, hts⟩ hT hZ hA hP hD hS (c_X5_isFlag l D cI cZ cN aK aV p3 _ rfl) ⟨callB_of 1 hts (k_good u_390) rfl rfl rfl (hu _ u_45) (hu _ u_388) (by decide +kernel) ⟨Nat.le_of_ble_eq_true rfl, Nat.le_of_ble_eq_true rfl⟩, hu _ u_389⟩ rfl hl.1 rfl (Nat.le_of_ble_eq_true rfl) dX5_send_23 (fun H locs hP hD hS => ?_)
      refine lv_if_ne (tgt := 31) hx hb dX5_send_26 (by decide) (fun cc_3 => ?_) (fun cc_3 => ?_)
      · have h := (if_neg cc_3).symm.trans h
        refine lv_aload_n hx hb dX5_send_31 rfl (lv_at hl 0 rfl) ?_
        refine va_get (D := D) (ci := 5) (v := .ref qt) (C := RX5) (T := TX5) (N := 12) hx hb hu k_iX5 hown hK hP 6 rfl rfl 7 (by decide) (hu _ u_290) (fun _ h9 => h9) rfl dX5_send_32 ?_
        refine lv_iload_n hx hb dX5_send_35 rfl (lv_at hl 1 rfl) ?_
        refine lv_iload_n hx hb dX5_send_36 rfl (lv_at hl 2 rfl) ?_
        refine lv_iload_n hx hb dX5_send_37 rfl (lv_at hl 3 rfl) ?_
        refine lv_iconst (v := (1 : Int32)) hx hb dX5_send_38 (by decide) ?_
        refine lv_icmp_ne (tgt := 46) hx hb dX5_send_39 (by decide) (fun cc_4 => ?_) (fun cc_4 => ?_)
        · have h := (if_neg cc_4).symm.trans h
          refine lv_iconst (v := (0 : Int32)) hx hb dX5_send_46 (by decide) ?_
          exact w47 (0 : Int32) p2 p1 x_letterSent x_letterFits n_nodes n_links n_room n_alive n_inMap n_low n_high n_length y_far y_usable t_steps t_cost t_cause t_place t_computed t_list t_listed t_visited t_metLow t_metHigh _ _ _ hP hD hS (lv_sub hl [0] rfl) h
        · have h := (if_pos cc_4).symm.trans h
          refine lv_iconst (v := (1 : Int32)) hx hb dX5_send_42 (by decide) ?_
          refine lv_goto (tgt := 47) hx hb dX5_send_43 (by decide) ?_
          exact w47 (1 : Int32) p2 p1 x_letterSent x_letterFits n_nodes n_links n_room n_alive n_inMap n_low n_high n_length y_far y_usable t_steps t_cost t_cause t_place t_computed t_list t_listed t_visited t_metLow t_metHigh _ _ _ hP hD hS (lv_sub hl [0] rfl) h
      · have h := (if_pos cc_3).symm.trans h
        refine lv_iconst (v := (-1 : Int32)) hx hb dX5_send_29 (by decide) ?_
        have hq := Option.some.inj h
        clear h
        obtain ⟨e0, hq0⟩ := Prod.mk.inj hq
        clear hq
        obtain ⟨e1, hq1⟩ := Prod.mk.inj hq0
        clear hq0
        obtain ⟨e2, hq2⟩ := Prod.mk.inj hq1
        clear hq1
        obtain ⟨e3, hq3⟩ := Prod.mk.inj hq2
        clear hq2
        obtain ⟨e4, hq4⟩ := Prod.mk.inj hq3
        clear hq3
        obtain ⟨e5, hq5⟩ := Prod.mk.inj hq4
        clear hq4
        obtain ⟨e6, hq6⟩ := Prod.mk.inj hq5
        clear hq5
        obtain ⟨e7, hq7⟩ := Prod.mk.inj hq6
        clear hq6
        obtain ⟨e8, hq8⟩ := Prod.mk.inj hq7
        clear hq7
        obtain ⟨e9, hq9⟩ := Prod.mk.inj hq8
        clear hq8
        obtain ⟨e10, hq10⟩ := Prod.mk.inj hq9
        clear hq9
        obtain ⟨e11, hq11⟩ := Prod.mk.inj hq10
        clear hq10
        obtain ⟨e12, hq12⟩ := Prod.mk.inj hq11
        clear hq11
        obtain ⟨e13, hq13⟩ := Prod.mk.inj hq12
        clear hq12
        subst e0
        subst e1
        subst e2
        subst e3
        subst e4
        subst e5
        subst e6
        subst e7
        subst e8
        subst e9
        subst e10
        subst e11
        subst e12
        subst e13
        subst hq13
        exact k_retI hx hb hr hlocks hP hD hS dX5_send_30
def f_X5_letter (p1 : Int32) (x_letterSent : Int32) (t_steps : Int32) (t_cost : Int32) (t_cause : Int32) (t_place : Int32) (t_computed : Int32) (t_listed : Int32) : Int32 :=
  if p1 < (0 : Int32) then
    (-1 : Int32)
  else
    if p1 ≤ (5 : Int32) then
      if x_letterSent = (0 : Int32) then
        (-2 : Int32)
      else
        if p1 = (0 : Int32) then
          t_steps
        else
        if p1 = (1 : Int32) then
          t_cost
        else
        if p1 = (2 : Int32) then
          t_listed
        else
        if p1 = (3 : Int32) then
          t_cause
        else
        if p1 = (4 : Int32) then
          t_place
        else
        t_computed
    else
      (-1 : Int32)
set_option maxHeartbeats 4000000 in
set_option maxRecDepth 100000 in
theorem c_X5_letter (l : Launch) (D : va_G) (cI cZ cN : ClassId) (aK aV : Nat → Nat)  (qx : Nat) (qx_history : Nat) (qx_images : Nat) (qx_kept : Nat) (qn : Nat) (qd : Nat) (qy : Nat) (qt : Nat) (qt_visited : Nat) (qt_metLow : Nat) (qt_metHigh : Nat) (qv : Nat) (qz : Nat) (x_undoable : Int32) (x_letterSent : Int32) (x_letterFits : Int32) (t_steps : Int32) (t_cost : Int32) (t_cause : Int32) (t_place : Int32) (t_computed : Int32) (t_list : Int32) (t_listed : Int32) (p1 : Int32) (r : Int32) (h : f_X5_letter p1 x_letterSent t_steps t_cost t_cause t_place t_computed t_listed = r) : CtI l D cI cZ cN aK aV yX5_letter (k_W yX5_letter cX5_letter 2 (some .int)) { frames := 0, cells := 0, slots := 0, locals := 0 } [.ref qx, .int p1] [(qt, .inr (0, [.ref qn, .ref qy, .int t_steps, .int t_cost, .int t_cause, .int t_place, .int t_computed, .int t_list, .int t_listed, .ref qt_visited, .ref qt_metLow, .ref qt_metHigh])), (qx, .inr (5, [.ref qn, .ref qd, .ref qx_history, .int x_undoable, .ref qx_images, .ref qx_kept, .ref qy, .ref qt, .int x_letterSent, .int x_letterFits, .ref qv, .ref qz]))] r [(qt, .inr (0, [.ref qn, .ref qy, .int t_steps, .int t_cost, .int t_cause, .int t_place, .int t_computed, .int t_list, .int t_listed, .ref qt_visited, .ref qt_metLow, .ref qt_metHigh])), (qx, .inr (5, [.ref qn, .ref qd, .ref qx_history, .int x_undoable, .ref qx_images, .ref qx_kept, .ref qy, .ref qt, .int x_letterSent, .int x_letterFits, .ref qv, .ref qz]))] := by
  refine k_startI (by decide) (Nat.le_of_ble_eq_true rfl) ?_
  intro p e s m below meth c A ls hx hb hr hml hown hts hlocks hT hZ hA hP hD hS hl
  have hK := hT.1
  have hu : ∀ w ∈ k_U, w.before ([.ref qx, .int p1] : List Value).toArray s = true := fun w h => hts w (List.mem_cons_of_mem _ h)
  have hown : s.vm.findClass RX5 = some m.cls := hown
  have hl : lv_has ls 2 [(0, .ref qx), (1, .int p1)] := hl
  unfold f_X5_letter at h
  refine lv_iload_n hx hb dX5_letter_0 rfl (lv_at hl 1 rfl) ?_
  refine lv_if_lt (tgt := 9) hx hb dX5_letter_1 (by decide) (fun cc_1 => ?_) (fun cc_1 => ?_)
  · have h := (if_pos cc_1).symm.trans h
    refine lv_iconst (v := (-1 : Int32)) hx hb dX5_letter_9 (by decide) ?_
    have hq := h
    clear h
    subst hq
    exact k_retI hx hb hr hlocks hP hD hS dX5_letter_10
  · have h := (if_neg cc_1).symm.trans h
    refine lv_iload_n hx hb dX5_letter_4 rfl (lv_at hl 1 rfl) ?_
    refine lv_iconst (v := (5 : Int32)) hx hb dX5_letter_5 (by decide) ?_
    refine lv_icmp_le (tgt := 11) hx hb dX5_letter_6 (by decide) (fun cc_2 => ?_) (fun cc_2 => ?_)
    · have h := (if_pos cc_2).symm.trans h
      refine lv_aload_n hx hb dX5_letter_11 rfl (lv_at hl 0 rfl) ?_
      refine va_get (D := D) (ci := 5) (v := .int x_letterSent) (C := RX5) (T := TX5) (N := 12) hx hb hu k_iX5 hown hK hP 1 rfl rfl 8 (by decide) (hu _ u_291) (fun _ h9 => h9) rfl dX5_letter_12 ?_
      refine lv_if_ne (tgt := 21) hx hb dX5_letter_15 (by decide) (fun cc_3 => ?_) (fun cc_3 => ?_)
      · have h := (if_neg cc_3).symm.trans h
        refine lv_iload_n hx hb dX5_letter_21 rfl (lv_at hl 1 rfl) ?_
        by_cases sw_4 : p1 = (0 : Int32)
        · have h := (if_pos sw_4).symm.trans h
          refine lv_tableIn (tgt := 56) hx hb dX5_letter_22 (by rw [sw_4]; decide) (by rw [sw_4]; decide) (by rw [sw_4]; rfl) (by decide) ?_
          refine lv_aload_n hx hb dX5_letter_56 rfl (lv_at hl 0 rfl) ?_
          refine va_get (D := D) (ci := 5) (v := .ref qt) (C := RX5) (T := TX5) (N := 12) hx hb hu k_iX5 hown hK hP 1 rfl rfl 7 (by decide) (hu _ u_290) (fun _ h9 => h9) rfl dX5_letter_57 ?_
          refine va_get (D := D) (ci := 0) (v := .int t_steps) (C := RX0) (T := TX0) (N := 12) hx hb hu k_iX0 hown hK hP 0 rfl rfl 2 (by decide) (hu _ u_148) (fun _ h9 => h9) rfl dX5_letter_60 ?_
          have hq := h
          clear h
          subst hq
          exact k_retI hx hb hr hlocks hP hD hS dX5_letter_63
        have h := (if_neg sw_4).symm.trans h
        by_cases sw_5 : p1 = (1 : Int32)
        · have h := (if_pos sw_5).symm.trans h
          refine lv_tableIn (tgt := 64) hx hb dX5_letter_22 (by rw [sw_5]; decide) (by rw [sw_5]; decide) (by rw [sw_5]; rfl) (by decide) ?_
          refine lv_aload_n hx hb dX5_letter_64 rfl (lv_at hl 0 rfl) ?_
          refine va_get (D := D) (ci := 5) (v := .ref qt) (C := RX5) (T := TX5) (N := 12) hx hb hu k_iX5 hown hK hP 1 rfl rfl 7 (by decide) (hu _ u_290) (fun _ h9 => h9) rfl dX5_letter_65 ?_
          refine va_get (D := D) (ci := 0) (v := .int t_cost) (C := RX0) (T := TX0) (N := 12) hx hb hu k_iX0 hown hK hP 0 rfl rfl 3 (by decide) (hu _ u_151) (fun _ h9 => h9) rfl dX5_letter_68 ?_
          have hq := h
          clear h
          subst hq
          exact k_retI hx hb hr hlocks hP hD hS dX5_letter_71
        have h := (if_neg sw_5).symm.trans h
        by_cases sw_6 : p1 = (2 : Int32)
        · have h := (if_pos sw_6).symm.trans h
          refine lv_tableIn (tgt := 72) hx hb dX5_letter_22 (by rw [sw_6]; decide) (by rw [sw_6]; decide) (by rw [sw_6]; rfl) (by decide) ?_
          refine lv_aload_n hx hb dX5_letter_72 rfl (lv_at hl 0 rfl) ?_
          refine va_get (D := D) (ci := 5) (v := .ref qt) (C := RX5) (T := TX5) (N := 12) hx hb hu k_iX5 hown hK hP 1 rfl rfl 7 (by decide) (hu _ u_290) (fun _ h9 => h9) rfl dX5_letter_73 ?_
          refine va_get (D := D) (ci := 0) (v := .int t_listed) (C := RX0) (T := TX0) (N := 12) hx hb hu k_iX0 hown hK hP 0 rfl rfl 8 (by decide) (hu _ u_162) (fun _ h9 => h9) rfl dX5_letter_76 ?_
          have hq := h
          clear h
          subst hq
          exact k_retI hx hb hr hlocks hP hD hS dX5_letter_79
        have h := (if_neg sw_6).symm.trans h
        by_cases sw_7 : p1 = (3 : Int32)
        · have h := (if_pos sw_7).symm.trans h
          refine lv_tableIn (tgt := 80) hx hb dX5_letter_22 (by rw [sw_7]; decide) (by rw [sw_7]; decide) (by rw [sw_7]; rfl) (by decide) ?_
          refine lv_aload_n hx hb dX5_letter_80 rfl (lv_at hl 0 rfl) ?_
          refine va_get (D := D) (ci := 5) (v := .ref qt) (C := RX5) (T := TX5) (N := 12) hx hb hu k_iX5 hown hK hP 1 rfl rfl 7 (by decide) (hu _ u_290) (fun _ h9 => h9) rfl dX5_letter_81 ?_
          refine va_get (D := D) (ci := 0) (v := .int t_cause) (C := RX0) (T := TX0) (N := 12) hx hb hu k_iX0 hown hK hP 0 rfl rfl 4 (by decide) (hu _ u_153) (fun _ h9 => h9) rfl dX5_letter_84 ?_
          have hq := h
          clear h
          subst hq
          exact k_retI hx hb hr hlocks hP hD hS dX5_letter_87
        have h := (if_neg sw_7).symm.trans h
        by_cases sw_8 : p1 = (4 : Int32)
        · have h := (if_pos sw_8).symm.trans h
          refine lv_tableIn (tgt := 88) hx hb dX5_letter_22 (by rw [sw_8]; decide) (by rw [sw_8]; decide) (by rw [sw_8]; rfl) (by decide) ?_
          refine lv_aload_n hx hb dX5_letter_88 rfl (lv_at hl 0 rfl) ?_
          refine va_get (D := D) (ci := 5) (v := .ref qt) (C := RX5) (T := TX5) (N := 12) hx hb hu k_iX5 hown hK hP 1 rfl rfl 7 (by decide) (hu _ u_290) (fun _ h9 => h9) rfl dX5_letter_89 ?_
          refine va_get (D := D) (ci := 0) (v := .int t_place) (C := RX0) (T := TX0) (N := 12) hx hb hu k_iX0 hown hK hP 0 rfl rfl 5 (by decide) (hu _ u_155) (fun _ h9 => h9) rfl dX5_letter_92 ?_
          have hq := h
          clear h
          subst hq
          exact k_retI hx hb hr hlocks hP hD hS dX5_letter_95
        have h := (if_neg sw_8).symm.trans h
        refine lv_tableOut (tgt := 96) hx hb dX5_letter_22 (k_swo 0 4 (by decide) (by decide) (by intro j h1 h2; rcases (show j = 0 ∨ j = 1 ∨ j = 2 ∨ j = 3 ∨ j = 4 by omega) with rfl | rfl | rfl | rfl | rfl <;> assumption)) (by decide) ?_
        refine lv_aload_n hx hb dX5_letter_96 rfl (lv_at hl 0 rfl) ?_
        refine va_get (D := D) (ci := 5) (v := .ref qt) (C := RX5) (T := TX5) (N := 12) hx hb hu k_iX5 hown hK hP 1 rfl rfl 7 (by decide) (hu _ u_290) (fun _ h9 => h9) rfl dX5_letter_97 ?_
        refine va_get (D := D) (ci := 0) (v := .int t_computed) (C := RX0) (T := TX0) (N := 12) hx hb hu k_iX0 hown hK hP 0 rfl rfl 6 (by decide) (hu _ u_157) (fun _ h9 => h9) rfl dX5_letter_100 ?_
        have hq := h
        clear h
        subst hq
        exact k_retI hx hb hr hlocks hP hD hS dX5_letter_103
      · have h := (if_pos cc_3).symm.trans h
        refine lv_bipush (v := (-2 : Int32)) hx hb dX5_letter_18 (by decide) ?_
        have hq := h
        clear h
        subst hq
        exact k_retI hx hb hr hlocks hP hD hS dX5_letter_20
    · have h := (if_neg cc_2).symm.trans h
      refine lv_iconst (v := (-1 : Int32)) hx hb dX5_letter_9 (by decide) ?_
      have hq := h
      clear h
      subst hq
      exact k_retI hx hb hr hlocks hP hD hS dX5_letter_10
def f_X5_passed (p1 : Int32) (x_letterSent : Int32) (t_steps : Int32) (t_visited : (Nat → Int32)) : Option (Int32) :=
  if (0 : Int32) ≤ p1 then
    if x_letterSent = (0 : Int32) then
      some ((-2 : Int32))
    else
      if t_steps < p1 then
        some ((-9 : Int32))
      else
        if p1 ≤ (40 : Int32) then
          if inb p1 41 = true then
          some ((t_visited (Int32.toNatClampNeg p1)))
          else none
        else
          some ((-9 : Int32))
  else
    some ((-1 : Int32))
set_option maxHeartbeats 4000000 in
set_option maxRecDepth 100000 in
theorem c_X5_passed (l : Launch) (D : va_G) (cI cZ cN : ClassId) (aK aV : Nat → Nat)  (qx : Nat) (qx_history : Nat) (qx_images : Nat) (qx_kept : Nat) (qn : Nat) (qd : Nat) (qy : Nat) (qt : Nat) (qt_visited : Nat) (qt_metLow : Nat) (qt_metHigh : Nat) (qv : Nat) (qz : Nat) (x_undoable : Int32) (x_letterSent : Int32) (x_letterFits : Int32) (t_steps : Int32) (t_cost : Int32) (t_cause : Int32) (t_place : Int32) (t_computed : Int32) (t_list : Int32) (t_listed : Int32) (t_visited : (Nat → Int32)) (p1 : Int32) (r : Int32) (h : f_X5_passed p1 x_letterSent t_steps t_visited = some r) : CtI l D cI cZ cN aK aV yX5_passed (k_W yX5_passed cX5_passed 2 (some .int)) { frames := 0, cells := 0, slots := 0, locals := 0 } [.ref qx, .int p1] [(qt, .inr (0, [.ref qn, .ref qy, .int t_steps, .int t_cost, .int t_cause, .int t_place, .int t_computed, .int t_list, .int t_listed, .ref qt_visited, .ref qt_metLow, .ref qt_metHigh])), (qt_visited, .inl (cI, 41, .inl t_visited)), (qx, .inr (5, [.ref qn, .ref qd, .ref qx_history, .int x_undoable, .ref qx_images, .ref qx_kept, .ref qy, .ref qt, .int x_letterSent, .int x_letterFits, .ref qv, .ref qz]))] r [(qt, .inr (0, [.ref qn, .ref qy, .int t_steps, .int t_cost, .int t_cause, .int t_place, .int t_computed, .int t_list, .int t_listed, .ref qt_visited, .ref qt_metLow, .ref qt_metHigh])), (qt_visited, .inl (cI, 41, .inl t_visited)), (qx, .inr (5, [.ref qn, .ref qd, .ref qx_history, .int x_undoable, .ref qx_images, .ref qx_kept, .ref qy, .ref qt, .int x_letterSent, .int x_letterFits, .ref qv, .ref qz]))] := by
  refine k_startI (by decide) (Nat.le_of_ble_eq_true rfl) ?_
  intro p e s m below meth c A ls hx hb hr hml hown hts hlocks hT hZ hA hP hD hS hl
  have hK := hT.1
  have hu : ∀ w ∈ k_U, w.before ([.ref qx, .int p1] : List Value).toArray s = true := fun w h => hts w (List.mem_cons_of_mem _ h)
  have hown : s.vm.findClass RX5 = some m.cls := hown
  have hl : lv_has ls 2 [(0, .ref qx), (1, .int p1)] := hl
  unfold f_X5_passed at h
  refine lv_iload_n hx hb dX5_passed_0 rfl (lv_at hl 1 rfl) ?_
  refine lv_if_ge (tgt := 6) hx hb dX5_passed_1 (by decide) (fun cc_1 => ?_) (fun cc_1 => ?_)
  · have h := (if_pos cc_1).symm.trans h
    refine lv_aload_n hx hb dX5_passed_6 rfl (lv_at hl 0 rfl) ?_
    refine va_get (D := D) (ci := 5) (v := .int x_letterSent) (C := RX5) (T := TX5) (N := 12) hx hb hu k_iX5 hown hK hP 2 rfl rfl 8 (by decide) (hu _ u_291) (fun _ h9 => h9) rfl dX5_passed_7 ?_
    refine lv_if_ne (tgt := 16) hx hb dX5_passed_10 (by decide) (fun cc_2 => ?_) (fun cc_2 => ?_)
    · have h := (if_neg cc_2).symm.trans h
      refine lv_iload_n hx hb dX5_passed_16 rfl (lv_at hl 1 rfl) ?_
      refine lv_aload_n hx hb dX5_passed_17 rfl (lv_at hl 0 rfl) ?_
      refine va_get (D := D) (ci := 5) (v := .ref qt) (C := RX5) (T := TX5) (N := 12) hx hb hu k_iX5 hown hK hP 2 rfl rfl 7 (by decide) (hu _ u_290) (fun _ h9 => h9) rfl dX5_passed_18 ?_
      refine va_get (D := D) (ci := 0) (v := .int t_steps) (C := RX0) (T := TX0) (N := 12) hx hb hu k_iX0 hown hK hP 0 rfl rfl 2 (by decide) (hu _ u_148) (fun _ h9 => h9) rfl dX5_passed_21 ?_
      refine lv_icmp_gt (tgt := 33) hx hb dX5_passed_24 (by decide) (fun cc_3 => ?_) (fun cc_3 => ?_)
      · have h := (if_pos cc_3).symm.trans h
        refine lv_bipush (v := (-9 : Int32)) hx hb dX5_passed_33 (by decide) ?_
        refine lv_goto (tgt := 47) hx hb dX5_passed_35 (by decide) ?_
        have hq := Option.some.inj h
        clear h
        subst hq
        exact k_retI hx hb hr hlocks hP hD hS dX5_passed_47
      · have h := (if_neg cc_3).symm.trans h
        refine lv_iload_n hx hb dX5_passed_27 rfl (lv_at hl 1 rfl) ?_
        refine lv_bipush (v := (40 : Int32)) hx hb dX5_passed_28 (by decide) ?_
        refine lv_icmp_le (tgt := 38) hx hb dX5_passed_30 (by decide) (fun cc_4 => ?_) (fun cc_4 => ?_)
        · have h := (if_pos cc_4).symm.trans h
          refine lv_aload_n hx hb dX5_passed_38 rfl (lv_at hl 0 rfl) ?_
          refine va_get (D := D) (ci := 5) (v := .ref qt) (C := RX5) (T := TX5) (N := 12) hx hb hu k_iX5 hown hK hP 2 rfl rfl 7 (by decide) (hu _ u_290) (fun _ h9 => h9) rfl dX5_passed_39 ?_
          refine va_get (D := D) (ci := 0) (v := .ref qt_visited) (C := RX0) (T := TX0) (N := 12) hx hb hu k_iX0 hown hK hP 0 rfl rfl 9 (by decide) (hu _ u_164) (fun _ h9 => h9) rfl dX5_passed_42 ?_
          refine lv_iload_n hx hb dX5_passed_45 rfl (lv_at hl 1 rfl) ?_
          obtain ⟨hin_5, h⟩ := ob_if h
          have hin_5 := inb_in hin_5
          refine va_iald (D := D) hx hb hK hP 1 0 rfl rfl hin_5 dX5_passed_46 ?_
          have hq := Option.some.inj h
          clear h
          subst hq
          exact k_retI hx hb hr hlocks hP hD hS dX5_passed_47
        · have h := (if_neg cc_4).symm.trans h
          refine lv_bipush (v := (-9 : Int32)) hx hb dX5_passed_33 (by decide) ?_
          refine lv_goto (tgt := 47) hx hb dX5_passed_35 (by decide) ?_
          have hq := Option.some.inj h
          clear h
          subst hq
          exact k_retI hx hb hr hlocks hP hD hS dX5_passed_47
    · have h := (if_pos cc_2).symm.trans h
      refine lv_bipush (v := (-2 : Int32)) hx hb dX5_passed_13 (by decide) ?_
      have hq := Option.some.inj h
      clear h
      subst hq
      exact k_retI hx hb hr hlocks hP hD hS dX5_passed_15
  · have h := (if_neg cc_1).symm.trans h
    refine lv_iconst (v := (-1 : Int32)) hx hb dX5_passed_4 (by decide) ?_
    have hq := Option.some.inj h
    clear h
    subst hq
    exact k_retI hx hb hr hlocks hP hD hS dX5_passed_5
def f_X5_carried (p1 : Int32) (p2 : Int32) (x_letterSent : Int32) (t_listed : Int32) (t_metLow : (Nat → Int32)) (t_metHigh : (Nat → Int32)) : Option (Int32) :=
  if p1 < (0 : Int32) then
    some ((-1 : Int32))
  else
    if (f_X5_isFlag p2) = (0 : Int32) then
      some ((-1 : Int32))
    else
      if x_letterSent = (0 : Int32) then
        some ((-2 : Int32))
      else
        if t_listed ≤ p1 then
          some ((-9 : Int32))
        else
          if p1 < (18 : Int32) then
            if p2 = (0 : Int32) then
              if inb p1 18 = true then
              some ((t_metLow (Int32.toNatClampNeg p1)))
              else none
            else
              if inb p1 18 = true then
              some ((t_metHigh (Int32.toNatClampNeg p1)))
              else none
          else
            some ((-9 : Int32))
set_option maxHeartbeats 4000000 in
set_option maxRecDepth 100000 in
theorem c_X5_carried (l : Launch) (D : va_G) (cI cZ cN : ClassId) (aK aV : Nat → Nat)  (qx : Nat) (qx_history : Nat) (qx_images : Nat) (qx_kept : Nat) (qn : Nat) (qd : Nat) (qy : Nat) (qt : Nat) (qt_visited : Nat) (qt_metLow : Nat) (qt_metHigh : Nat) (qv : Nat) (qz : Nat) (x_undoable : Int32) (x_letterSent : Int32) (x_letterFits : Int32) (t_steps : Int32) (t_cost : Int32) (t_cause : Int32) (t_place : Int32) (t_computed : Int32) (t_list : Int32) (t_listed : Int32) (t_metLow : (Nat → Int32)) (t_metHigh : (Nat → Int32)) (p1 p2 : Int32) (r : Int32) (h : f_X5_carried p1 p2 x_letterSent t_listed t_metLow t_metHigh = some r) : CtI l D cI cZ cN aK aV yX5_carried (k_W yX5_carried cX5_carried 3 (some .int)) { frames := 1, cells := 0, slots := 0, locals := 20 } [.ref qx, .int p1, .int p2] [(qt, .inr (0, [.ref qn, .ref qy, .int t_steps, .int t_cost, .int t_cause, .int t_place, .int t_computed, .int t_list, .int t_listed, .ref qt_visited, .ref qt_metLow, .ref qt_metHigh])), (qt_metLow, .inl (cI, 18, .inl t_metLow)), (qt_metHigh, .inl (cI, 18, .inl t_metHigh)), (qx, .inr (5, [.ref qn, .ref qd, .ref qx_history, .int x_undoable, .ref qx_images, .ref qx_kept, .ref qy, .ref qt, .int x_letterSent, .int x_letterFits, .ref qv, .ref qz]))] r [(qt, .inr (0, [.ref qn, .ref qy, .int t_steps, .int t_cost, .int t_cause, .int t_place, .int t_computed, .int t_list, .int t_listed, .ref qt_visited, .ref qt_metLow, .ref qt_metHigh])), (qt_metLow, .inl (cI, 18, .inl t_metLow)), (qt_metHigh, .inl (cI, 18, .inl t_metHigh)), (qx, .inr (5, [.ref qn, .ref qd, .ref qx_history, .int x_undoable, .ref qx_images, .ref qx_kept, .ref qy, .ref qt, .int x_letterSent, .int x_letterFits, .ref qv, .ref qz]))] := by
  refine k_startI (by decide) (Nat.le_of_ble_eq_true rfl) ?_
  intro p e s m below meth c A ls hx hb hr hml hown hts hlocks hT hZ hA hP hD hS hl
  have hK := hT.1
  have hu : ∀ w ∈ k_U, w.before ([.ref qx, .int p1, .int p2] : List Value).toArray s = true := fun w h => hts w (List.mem_cons_of_mem _ h)
  have hown : s.vm.findClass RX5 = some m.cls := hown
  have hl : lv_has ls 3 [(0, .ref qx), (1, .int p1), (2, .int p2)] := hl
  unfold f_X5_carried at h
  refine lv_iload_n hx hb dX5_carried_0 rfl (lv_at hl 1 rfl) ?_
  refine lv_if_lt (tgt := 11) hx hb dX5_carried_1 (by decide) (fun cc_1 => ?_) (fun cc_1 => ?_)
  · have h := (if_pos cc_1).symm.trans h
    refine lv_iconst (v := (-1 : Int32)) hx hb dX5_carried_11 (by decide) ?_
    have hq := Option.some.inj h
    clear h
    subst hq
    exact k_retI hx hb hr hlocks hP hD hS dX5_carried_12
  · have h := (if_neg cc_1).symm.trans h
    refine lv_iload_n hx hb dX5_carried_4 rfl (lv_at hl 2 rfl) ?_
    refine k_call0 (As := [.int p2]) (rest := []) ⟨hx, hb, hml, hown, hts⟩ hT hZ hA hP hD hS (c_X5_isFlag l D cI cZ cN aK aV p2 _ rfl) ⟨callB_of 1 hts (k_good u_390) rfl rfl rfl (hu _ u_45) (hu _ u_388) (by decide +kernel) ⟨Nat.le_of_ble_eq_true rfl, Nat.le_of_ble_eq_true rfl⟩, hu _ u_389⟩ rfl hl.1 rfl (Nat.le_of_ble_eq_true rfl) dX5_carried_5 (fun H locs hP hD hS => ?_)
    refine lv_if_ne (tgt := 13) hx hb dX5_carried_8 (by decide) (fun cc_2 => ?_) (fun cc_2 => ?_)
    · have h := (if_neg cc_2).symm.trans h
      refine lv_aload_n hx hb dX5_carried_13 rfl (lv_at hl 0 rfl) ?_
      refine va_get (D := D) (ci := 5) (v := .int x_letterSent) (C := RX5) (T := TX5) (N := 12) hx hb hu k_iX5 hown hK hP 3 rfl rfl 8 (by decide) (hu _ u_291) (fun _ h9 => h9) rfl dX5_carried_14 ?_
      refine lv_if_ne (tgt := 23) hx hb dX5_carried_17 (by decide) (fun cc_3 => ?_) (fun cc_3 => ?_)
      · have h := (if_neg cc_3).symm.trans h
        refine lv_iload_n hx hb dX5_carried_23 rfl (lv_at hl 1 rfl) ?_
        refine lv_aload_n hx hb dX5_carried_24 rfl (lv_at hl 0 rfl) ?_
        refine va_get (D := D) (ci := 5) (v := .ref qt) (C := RX5) (T := TX5) (N := 12) hx hb hu k_iX5 hown hK hP 3 rfl rfl 7 (by decide) (hu _ u_290) (fun _ h9 => h9) rfl dX5_carried_25 ?_
        refine va_get (D := D) (ci := 0) (v := .int t_listed) (C := RX0) (T := TX0) (N := 12) hx hb hu k_iX0 hown hK hP 0 rfl rfl 8 (by decide) (hu _ u_162) (fun _ h9 => h9) rfl dX5_carried_28 ?_
        refine lv_icmp_ge (tgt := 40) hx hb dX5_carried_31 (by decide) (fun cc_4 => ?_) (fun cc_4 => ?_)
        · have h := (if_pos cc_4).symm.trans h
          refine lv_bipush (v := (-9 : Int32)) hx hb dX5_carried_40 (by decide) ?_
          have hq := Option.some.inj h
          clear h
          subst hq
          exact k_retI hx hb hr hlocks hP hD hS dX5_carried_42
        · have h := (if_neg cc_4).symm.trans h
          refine lv_iload_n hx hb dX5_carried_34 rfl (lv_at hl 1 rfl) ?_
          refine lv_bipush (v := (18 : Int32)) hx hb dX5_carried_35 (by decide) ?_
          refine lv_icmp_lt (tgt := 43) hx hb dX5_carried_37 (by decide) (fun cc_5 => ?_) (fun cc_5 => ?_)
          · have h := (if_pos cc_5).symm.trans h
            refine lv_iload_n hx hb dX5_carried_43 rfl (lv_at hl 2 rfl) ?_
            refine lv_if_ne (tgt := 59) hx hb dX5_carried_44 (by decide) (fun cc_6 => ?_) (fun cc_6 => ?_)
            · have h := (if_neg cc_6).symm.trans h
              refine lv_aload_n hx hb dX5_carried_59 rfl (lv_at hl 0 rfl) ?_
              refine va_get (D := D) (ci := 5) (v := .ref qt) (C := RX5) (T := TX5) (N := 12) hx hb hu k_iX5 hown hK hP 3 rfl rfl 7 (by decide) (hu _ u_290) (fun _ h9 => h9) rfl dX5_carried_60 ?_
              refine va_get (D := D) (ci := 0) (v := .ref qt_metHigh) (C := RX0) (T := TX0) (N := 12) hx hb hu k_iX0 hown hK hP 0 rfl rfl 11 (by decide) (hu _ u_168) (fun _ h9 => h9) rfl dX5_carried_63 ?_
              refine lv_iload_n hx hb dX5_carried_66 rfl (lv_at hl 1 rfl) ?_
              obtain ⟨hin_7, h⟩ := ob_if h
              have hin_7 := inb_in hin_7
              refine va_iald (D := D) hx hb hK hP 2 0 rfl rfl hin_7 dX5_carried_67 ?_
              have hq := Option.some.inj h
              clear h
              subst hq
              exact k_retI hx hb hr hlocks hP hD hS dX5_carried_68
            · have h := (if_pos cc_6).symm.trans h
              refine lv_aload_n hx hb dX5_carried_47 rfl (lv_at hl 0 rfl) ?_
              refine va_get (D := D) (ci := 5) (v := .ref qt) (C := RX5) (T := TX5) (N := 12) hx hb hu k_iX5 hown hK hP 3 rfl rfl 7 (by decide) (hu _ u_290) (fun _ h9 => h9) rfl dX5_carried_48 ?_
              refine va_get (D := D) (ci := 0) (v := .ref qt_metLow) (C := RX0) (T := TX0) (N := 12) hx hb hu k_iX0 hown hK hP 0 rfl rfl 10 (by decide) (hu _ u_166) (fun _ h9 => h9) rfl dX5_carried_51 ?_
              refine lv_iload_n hx hb dX5_carried_54 rfl (lv_at hl 1 rfl) ?_
              obtain ⟨hin_8, h⟩ := ob_if h
              have hin_8 := inb_in hin_8
              refine va_iald (D := D) hx hb hK hP 1 0 rfl rfl hin_8 dX5_carried_55 ?_
              refine lv_goto (tgt := 68) hx hb dX5_carried_56 (by decide) ?_
              have hq := Option.some.inj h
              clear h
              subst hq
              exact k_retI hx hb hr hlocks hP hD hS dX5_carried_68
          · have h := (if_neg cc_5).symm.trans h
            refine lv_bipush (v := (-9 : Int32)) hx hb dX5_carried_40 (by decide) ?_
            have hq := Option.some.inj h
            clear h
            subst hq
            exact k_retI hx hb hr hlocks hP hD hS dX5_carried_42
      · have h := (if_pos cc_3).symm.trans h
        refine lv_bipush (v := (-2 : Int32)) hx hb dX5_carried_20 (by decide) ?_
        have hq := Option.some.inj h
        clear h
        subst hq
        exact k_retI hx hb hr hlocks hP hD hS dX5_carried_22
    · have h := (if_pos cc_2).symm.trans h
      refine lv_iconst (v := (-1 : Int32)) hx hb dX5_carried_11 (by decide) ?_
      have hq := Option.some.inj h
      clear h
      subst hq
      exact k_retI hx hb hr hlocks hP hD hS dX5_carried_12
def f_X5_all_b33  (x1 : Int32) (s0 : Int32) (n_nodes : Int32) (n_links : Int32) (n_room : Int32) (n_alive : Int32) (n_inMap : Int32) (n_low : (Nat → Int32)) (n_high : (Nat → Int32)) (n_length : (Nat → Int32)) (y_far : (Nat → Int32)) (y_usable : Int32) (v_joined : Int32) (v_arrived : Int32) (v_lostInVain : Int32) (v_costs : Int32) (v_trueLengths : Int32) (v_longestList : Int32) (v_longestListArrived : Int32) (v_mostSteps : Int32) (v_dearer : Int32) (r_steps : Int32) (r_cost : Int32) (r_cause : Int32) (r_place : Int32) (r_computed : Int32) (r_list : Int32) (r_listed : Int32) (r_visited : (Nat → Int32)) (r_metLow : (Nat → Int32)) (r_metHigh : (Nat → Int32)) : Option (Int32 × (Nat → Int32) × Int32 × Int32 × Int32 × Int32 × Int32 × Int32 × Int32 × Int32 × Int32 × Int32 × Int32 × Int32 × Int32 × Int32 × Int32 × Int32 × Int32 × (Nat → Int32) × (Nat → Int32) × (Nat → Int32)) :=
  (f_X2_take s0 n_room v_joined v_arrived v_lostInVain v_costs v_trueLengths v_longestList v_longestListArrived v_mostSteps v_dearer r_steps r_cost r_cause r_place r_computed r_list r_listed r_visited r_metLow r_metHigh y_far y_usable n_nodes n_links n_alive n_inMap n_low n_high n_length).bind fun ⟨o_5, o_6, o_7, o_8, o_9, o_10, o_11, o_12, o_13, o_14, o_15, o_16, o_17, o_18, o_19, o_20, o_21, o_22, o_23, o_24, o_25⟩ =>
  if x1 = (0 : Int32) then
    some (o_5, o_24, o_25, o_5, o_6, o_7, o_8, o_9, o_10, o_11, o_12, o_13, o_14, o_15, o_16, o_17, o_18, o_19, o_20, o_21, o_22, o_23)
  else
  if x1 = (1 : Int32) then
    some (o_6, o_24, o_25, o_5, o_6, o_7, o_8, o_9, o_10, o_11, o_12, o_13, o_14, o_15, o_16, o_17, o_18, o_19, o_20, o_21, o_22, o_23)
  else
  if x1 = (2 : Int32) then
    some (o_7, o_24, o_25, o_5, o_6, o_7, o_8, o_9, o_10, o_11, o_12, o_13, o_14, o_15, o_16, o_17, o_18, o_19, o_20, o_21, o_22, o_23)
  else
  if x1 = (3 : Int32) then
    some (o_8, o_24, o_25, o_5, o_6, o_7, o_8, o_9, o_10, o_11, o_12, o_13, o_14, o_15, o_16, o_17, o_18, o_19, o_20, o_21, o_22, o_23)
  else
  if x1 = (4 : Int32) then
    some (o_9, o_24, o_25, o_5, o_6, o_7, o_8, o_9, o_10, o_11, o_12, o_13, o_14, o_15, o_16, o_17, o_18, o_19, o_20, o_21, o_22, o_23)
  else
  if x1 = (5 : Int32) then
    some (o_10, o_24, o_25, o_5, o_6, o_7, o_8, o_9, o_10, o_11, o_12, o_13, o_14, o_15, o_16, o_17, o_18, o_19, o_20, o_21, o_22, o_23)
  else
  if x1 = (6 : Int32) then
    some (o_12, o_24, o_25, o_5, o_6, o_7, o_8, o_9, o_10, o_11, o_12, o_13, o_14, o_15, o_16, o_17, o_18, o_19, o_20, o_21, o_22, o_23)
  else
  some (o_13, o_24, o_25, o_5, o_6, o_7, o_8, o_9, o_10, o_11, o_12, o_13, o_14, o_15, o_16, o_17, o_18, o_19, o_20, o_21, o_22, o_23)
def f_X5_all (p1 : Int32) (p2 : Int32) (n_nodes : Int32) (n_links : Int32) (n_room : Int32) (n_alive : Int32) (n_inMap : Int32) (n_low : (Nat → Int32)) (n_high : (Nat → Int32)) (n_length : (Nat → Int32)) (y_far : (Nat → Int32)) (y_usable : Int32) (v_joined : Int32) (v_arrived : Int32) (v_lostInVain : Int32) (v_costs : Int32) (v_trueLengths : Int32) (v_longestList : Int32) (v_longestListArrived : Int32) (v_mostSteps : Int32) (v_dearer : Int32) (r_steps : Int32) (r_cost : Int32) (r_cause : Int32) (r_place : Int32) (r_computed : Int32) (r_list : Int32) (r_listed : Int32) (r_visited : (Nat → Int32)) (r_metLow : (Nat → Int32)) (r_metHigh : (Nat → Int32)) : Option (Int32 × (Nat → Int32) × Int32 × Int32 × Int32 × Int32 × Int32 × Int32 × Int32 × Int32 × Int32 × Int32 × Int32 × Int32 × Int32 × Int32 × Int32 × Int32 × Int32 × (Nat → Int32) × (Nat → Int32) × (Nat → Int32)) :=
  if p1 < (0 : Int32) then
    some ((-1 : Int32), y_far, y_usable, v_joined, v_arrived, v_lostInVain, v_costs, v_trueLengths, v_longestList, v_longestListArrived, v_mostSteps, v_dearer, r_steps, r_cost, r_cause, r_place, r_computed, r_list, r_listed, r_visited, r_metLow, r_metHigh)
  else
    if (7 : Int32) < p1 then
      some ((-1 : Int32), y_far, y_usable, v_joined, v_arrived, v_lostInVain, v_costs, v_trueLengths, v_longestList, v_longestListArrived, v_mostSteps, v_dearer, r_steps, r_cost, r_cause, r_place, r_computed, r_list, r_listed, r_visited, r_metLow, r_metHigh)
    else
      if (f_X5_isFlag p2) = (0 : Int32) then
        some ((-1 : Int32), y_far, y_usable, v_joined, v_arrived, v_lostInVain, v_costs, v_trueLengths, v_longestList, v_longestListArrived, v_mostSteps, v_dearer, r_steps, r_cost, r_cause, r_place, r_computed, r_list, r_listed, r_visited, r_metLow, r_metHigh)
      else
        if p2 = (1 : Int32) then
          f_X5_all_b33  p1 (1 : Int32) n_nodes n_links n_room n_alive n_inMap n_low n_high n_length y_far y_usable v_joined v_arrived v_lostInVain v_costs v_trueLengths v_longestList v_longestListArrived v_mostSteps v_dearer r_steps r_cost r_cause r_place r_computed r_list r_listed r_visited r_metLow r_metHigh
        else
          f_X5_all_b33  p1 (0 : Int32) n_nodes n_links n_room n_alive n_inMap n_low n_high n_length y_far y_usable v_joined v_arrived v_lostInVain v_costs v_trueLengths v_longestList v_longestListArrived v_mostSteps v_dearer r_steps r_cost r_cause r_place r_computed r_list r_listed r_visited r_metLow r_metHigh
set_option maxHeartbeats 4000000 in
set_option maxRecDepth 100000 in
theorem c_X5_all (l : Launch) (D : va_G) (cI cZ cN : ClassId) (aK aV : Nat → Nat)  (qx : Nat) (qx_history : Nat) (qx_images : Nat) (qx_kept : Nat) (qn : Nat) (qn_low : Nat) (qn_high : Nat) (qn_length : Nat) (qd : Nat) (qy : Nat) (qy_far : Nat) (qt : Nat) (qv : Nat) (qr : Nat) (qr_visited : Nat) (qr_metLow : Nat) (qr_metHigh : Nat) (qz : Nat) (x_undoable : Int32) (x_letterSent : Int32) (x_letterFits : Int32) (n_nodes : Int32) (n_links : Int32) (n_room : Int32) (n_alive : Int32) (n_inMap : Int32) (n_low : (Nat → Int32)) (n_high : (Nat → Int32)) (n_length : (Nat → Int32)) (y_far : (Nat → Int32)) (y_usable : Int32) (v_joined : Int32) (v_arrived : Int32) (v_lostInVain : Int32) (v_costs : Int32) (v_trueLengths : Int32) (v_longestList : Int32) (v_longestListArrived : Int32) (v_mostSteps : Int32) (v_dearer : Int32) (r_steps : Int32) (r_cost : Int32) (r_cause : Int32) (r_place : Int32) (r_computed : Int32) (r_list : Int32) (r_listed : Int32) (r_visited : (Nat → Int32)) (r_metLow : (Nat → Int32)) (r_metHigh : (Nat → Int32)) (p1 p2 : Int32) (r : Int32) (z_y_far : (Nat → Int32)) (z_y_usable : Int32) (z_v_joined : Int32) (z_v_arrived : Int32) (z_v_lostInVain : Int32) (z_v_costs : Int32) (z_v_trueLengths : Int32) (z_v_longestList : Int32) (z_v_longestListArrived : Int32) (z_v_mostSteps : Int32) (z_v_dearer : Int32) (z_r_steps : Int32) (z_r_cost : Int32) (z_r_cause : Int32) (z_r_place : Int32) (z_r_computed : Int32) (z_r_list : Int32) (z_r_listed : Int32) (z_r_visited : (Nat → Int32)) (z_r_metLow : (Nat → Int32)) (z_r_metHigh : (Nat → Int32)) (h : f_X5_all p1 p2 n_nodes n_links n_room n_alive n_inMap n_low n_high n_length y_far y_usable v_joined v_arrived v_lostInVain v_costs v_trueLengths v_longestList v_longestListArrived v_mostSteps v_dearer r_steps r_cost r_cause r_place r_computed r_list r_listed r_visited r_metLow r_metHigh = some (r, z_y_far, z_y_usable, z_v_joined, z_v_arrived, z_v_lostInVain, z_v_costs, z_v_trueLengths, z_v_longestList, z_v_longestListArrived, z_v_mostSteps, z_v_dearer, z_r_steps, z_r_cost, z_r_cause, z_r_place, z_r_computed, z_r_list, z_r_listed, z_r_visited, z_r_metLow, z_r_metHigh)) : CtI l D cI cZ cN aK aV yX5_all (k_W yX5_all cX5_all 3 (some .int)) { frames := 6, cells := 0, slots := 0, locals := 147 } [.ref qx, .int p1, .int p2] [(qy, .inr (4, [.ref qn, .ref qy_far, .int y_usable])), (qy_far, .inl (cI, 9, .inl y_far)), (qv, .inr (2, [.ref qn, .ref qy, .ref qr, .int v_joined, .int v_arrived, .int v_lostInVain, .int v_costs, .int v_trueLengths, .int v_longestList, .int v_longestListArrived, .int v_mostSteps, .int v_dearer])), (qr, .inr (0, [.ref qn, .ref qy, .int r_steps, .int r_cost, .int r_cause, .int r_place, .int r_computed, .int r_list, .int r_listed, .ref qr_visited, .ref qr_metLow, .ref qr_metHigh])), (qr_visited, .inl (cI, 41, .inl r_visited)), (qr_metLow, .inl (cI, 18, .inl r_metLow)), (qr_metHigh, .inl (cI, 18, .inl r_metHigh)), (qx, .inr (5, [.ref qn, .ref qd, .ref qx_history, .int x_undoable, .ref qx_images, .ref qx_kept, .ref qy, .ref qt, .int x_letterSent, .int x_letterFits, .ref qv, .ref qz])), (qn, .inr (1, [.int n_nodes, .int n_links, .int n_room, .int n_alive, .int n_inMap, .ref qn_low, .ref qn_high, .ref qn_length])), (qn_low, .inl (cI, 18, .inl n_low)), (qn_high, .inl (cI, 18, .inl n_high)), (qn_length, .inl (cI, 18, .inl n_length))] r [(qy, .inr (4, [.ref qn, .ref qy_far, .int z_y_usable])), (qy_far, .inl (cI, 9, .inl z_y_far)), (qv, .inr (2, [.ref qn, .ref qy, .ref qr, .int z_v_joined, .int z_v_arrived, .int z_v_lostInVain, .int z_v_costs, .int z_v_trueLengths, .int z_v_longestList, .int z_v_longestListArrived, .int z_v_mostSteps, .int z_v_dearer])), (qr, .inr (0, [.ref qn, .ref qy, .int z_r_steps, .int z_r_cost, .int z_r_cause, .int z_r_place, .int z_r_computed, .int z_r_list, .int z_r_listed, .ref qr_visited, .ref qr_metLow, .ref qr_metHigh])), (qr_visited, .inl (cI, 41, .inl z_r_visited)), (qr_metLow, .inl (cI, 18, .inl z_r_metLow)), (qr_metHigh, .inl (cI, 18, .inl z_r_metHigh)), (qx, .inr (5, [.ref qn, .ref qd, .ref qx_history, .int x_undoable, .ref qx_images, .ref qx_kept, .ref qy, .ref qt, .int x_letterSent, .int x_letterFits, .ref qv, .ref qz])), (qn, .inr (1, [.int n_nodes, .int n_links, .int n_room, .int n_alive, .int n_inMap, .ref qn_low, .ref qn_high, .ref qn_length])), (qn_low, .inl (cI, 18, .inl n_low)), (qn_high, .inl (cI, 18, .inl n_high)), (qn_length, .inl (cI, 18, .inl n_length))] := by
  refine k_startI (by decide) (Nat.le_of_ble_eq_true rfl) ?_
  intro p e s m below meth c A ls hx hb hr hml hown hts hlocks hT hZ hA hP hD hS hl
  have hK := hT.1
  have hu : ∀ w ∈ k_U, w.before ([.ref qx, .int p1, .int p2] : List Value).toArray s = true := fun w h => hts w (List.mem_cons_of_mem _ h)
  have hown : s.vm.findClass RX5 = some m.cls := hown
  have hl : lv_has ls 3 [(0, .ref qx), (1, .int p1), (2, .int p2)] := hl
  unfold f_X5_all at h
  have w33 : ∀  (x1 : Int32) (s0 : Int32) (n_nodes : Int32) (n_links : Int32) (n_room : Int32) (n_alive : Int32) (n_inMap : Int32) (n_low : (Nat → Int32)) (n_high : (Nat → Int32)) (n_length : (Nat → Int32)) (y_far : (Nat → Int32)) (y_usable : Int32) (v_joined : Int32) (v_arrived : Int32) (v_lostInVain : Int32) (v_costs : Int32) (v_trueLengths : Int32) (v_longestList : Int32) (v_longestListArrived : Int32) (v_mostSteps : Int32) (v_dearer : Int32) (r_steps : Int32) (r_cost : Int32) (r_cause : Int32) (r_place : Int32) (r_computed : Int32) (r_list : Int32) (r_listed : Int32) (r_visited : (Nat → Int32)) (r_metLow : (Nat → Int32)) (r_metHigh : (Nat → Int32)) (H : Heap) (locs : List Loc) (ls : Array Slot), va_P D vwCl [(qy, .inr (4, [.ref qn, .ref qy_far, .int y_usable])), (qy_far, .inl (cI, 9, .inl y_far)), (qv, .inr (2, [.ref qn, .ref qy, .ref qr, .int v_joined, .int v_arrived, .int v_lostInVain, .int v_costs, .int v_trueLengths, .int v_longestList, .int v_longestListArrived, .int v_mostSteps, .int v_dearer])), (qr, .inr (0, [.ref qn, .ref qy, .int r_steps, .int r_cost, .int r_cause, .int r_place, .int r_computed, .int r_list, .int r_listed, .ref qr_visited, .ref qr_metLow, .ref qr_metHigh])), (qr_visited, .inl (cI, 41, .inl r_visited)), (qr_metLow, .inl (cI, 18, .inl r_metLow)), (qr_metHigh, .inl (cI, 18, .inl r_metHigh)), (qx, .inr (5, [.ref qn, .ref qd, .ref qx_history, .int x_undoable, .ref qx_images, .ref qx_kept, .ref qy, .ref qt, .int x_letterSent, .int x_letterFits, .ref qv, .ref qz])), (qn, .inr (1, [.int n_nodes, .int n_links, .int n_room, .int n_alive, .int n_inMap, .ref qn_low, .ref qn_high, .ref qn_length])), (qn_low, .inl (cI, 18, .inl n_low)), (qn_high, .inl (cI, 18, .inl n_high)), (qn_length, .inl (cI, 18, .inl n_length))] H → va_D A [(qy, .inr (4, [.ref qn, .ref qy_far, .int y_usable])), (qy_far, .inl (cI, 9, .inl y_far)), (qv, .inr (2, [.ref qn, .ref qy, .ref qr, .int v_joined, .int v_arrived, .int v_lostInVain, .int v_costs, .int v_trueLengths, .int v_longestList, .int v_longestListArrived, .int v_mostSteps, .int v_dearer])), (qr, .inr (0, [.ref qn, .ref qy, .int r_steps, .int r_cost, .int r_cause, .int r_place, .int r_computed, .int r_list, .int r_listed, .ref qr_visited, .ref qr_metLow, .ref qr_metHigh])), (qr_visited, .inl (cI, 41, .inl r_visited)), (qr_metLow, .inl (cI, 18, .inl r_metLow)), (qr_metHigh, .inl (cI, 18, .inl r_metHigh)), (qx, .inr (5, [.ref qn, .ref qd, .ref qx_history, .int x_undoable, .ref qx_images, .ref qx_kept, .ref qy, .ref qt, .int x_letterSent, .int x_letterFits, .ref qv, .ref qz])), (qn, .inr (1, [.int n_nodes, .int n_links, .int n_room, .int n_alive, .int n_inMap, .ref qn_low, .ref qn_high, .ref qn_length])), (qn_low, .inl (cI, 18, .inl n_low)), (qn_high, .inl (cI, 18, .inl n_high)), (qn_length, .inl (cI, 18, .inl n_length))] → va_S A s.heap H locs → lv_has ls 3 [(0, .ref qx), (1, .int x1)] → f_X5_all_b33 x1 s0 n_nodes n_links n_room n_alive n_inMap n_low n_high n_length y_far y_usable v_joined v_arrived v_lostInVain v_costs v_trueLengths v_longestList v_longestListArrived v_mostSteps v_dearer r_steps r_cost r_cause r_place r_computed r_list r_listed r_visited r_metLow r_metHigh = some (r, z_y_far, z_y_usable, z_v_joined, z_v_arrived, z_v_lostInVain, z_v_costs, z_v_trueLengths, z_v_longestList, z_v_longestListArrived, z_v_mostSteps, z_v_dearer, z_r_steps, z_r_cost, z_r_cause, z_r_place, z_r_computed, z_r_list, z_r_listed, z_r_visited, z_r_metLow, z_r_metHigh) → W p l e { frames := 6, cells := 0, slots := 0, locals := 147 } s m ([.ref qx, .int p1, .int p2] : List Value).toArray below meth c H locs 0 0 (MQ below (k_QI D r [(qy, .inr (4, [.ref qn, .ref qy_far, .int z_y_usable])), (qy_far, .inl (cI, 9, .inl z_y_far)), (qv, .inr (2, [.ref qn, .ref qy, .ref qr, .int z_v_joined, .int z_v_arrived, .int z_v_lostInVain, .int z_v_costs, .int z_v_trueLengths, .int z_v_longestList, .int z_v_longestListArrived, .int z_v_mostSteps, .int z_v_dearer])), (qr, .inr (0, [.ref qn, .ref qy, .int z_r_steps, .int z_r_cost, .int z_r_cause, .int z_r_place, .int z_r_computed, .int z_r_list, .int z_r_listed, .ref qr_visited, .ref qr_metLow, .ref qr_metHigh])), (qr_visited, .inl (cI, 41, .inl z_r_visited)), (qr_metLow, .inl (cI, 18, .inl z_r_metLow)), (qr_metHigh, .inl (cI, 18, .inl z_r_metHigh)), (qx, .inr (5, [.ref qn, .ref qd, .ref qx_history, .int x_undoable, .ref qx_images, .ref qx_kept, .ref qy, .ref qt, .int x_letterSent, .int x_letterFits, .ref qv, .ref qz])), (qn, .inr (1, [.int n_nodes, .int n_links, .int n_room, .int n_alive, .int n_inMap, .ref qn_low, .ref qn_high, .ref qn_length])), (qn_low, .inl (cI, 18, .inl n_low)), (qn_high, .inl (cI, 18, .inl n_high)), (qn_length, .inl (cI, 18, .inl n_length))] A) ([.ref qx, .int p1, .int p2] : List Value).toArray s 0 0 A) (F0 m 33 ls [.int s0, .ref qv]) := by
    intro x1 s0 n_nodes n_links n_room n_alive n_inMap n_low n_high n_length y_far y_usable v_joined v_arrived v_lostInVain v_costs v_trueLengths v_longestList v_longestListArrived v_mostSteps v_dearer r_steps r_cost r_cause r_place r_computed r_list r_listed r_visited r_metLow r_metHigh H locs ls hP hD hS hl h
    unfold f_X5_all_b33 at h
    refine lv_aload_n hx hb dX5_all_33 rfl (lv_at hl 0 rfl) ?_
    refine va_get (D := D) (ci := 5) (v := .ref qn) (C := RX5) (T := TX5) (N := 12) hx hb hu k_iX5 hown hK hP 7 rfl rfl 0 (by decide) (hu _ u_283) (fun _ h9 => h9) rfl dX5_all_34 ?_
    refine va_get (D := D) (ci := 1) (v := .int n_room) (C := RX1) (T := TX1) (N := 8) hx hb hu k_iX1 hown hK hP 8 rfl rfl 2 (by decide) (hu _ u_81) (fun _ h9 => h9) rfl dX5_all_37 ?_
    obtain ⟨⟨o_5, o_6, o_7, o_8, o_9, o_10, o_11, o_12, o_13, o_14, o_15, o_16, o_17, o_18, o_19, o_20, o_21, o_22, o_23, o_24, o_25⟩, hc_26, h⟩ := ob_bind h
    dsimp only at h
    refine k_callVV (qb := 0) [2, 3, 4, 5, 6, 0, 1, 8, 9, 10, 11] [0, 1, 2, 3, 4, 5, 6] [2, 3, 4, 5, 6, 0, 1] [(qv, .inr (2, [.ref qn, .ref qy, .ref qr, .int o_5, .int o_6, .int o_7, .int o_8, .int o_9, .int o_10, .int o_11, .int o_12, .int o_13])), (qr, .inr (0, [.ref qn, .ref qy, .int o_14, .int o_15, .int o_16, .int o_17, .int o_18, .int o_19, .int o_20, .ref qr_visited, .ref qr_metLow, .ref qr_metHigh])), (qr_visited, .inl (cI, 41, .inl o_21)), (qr_metLow, .inl (cI, 18, .inl o_22)), (qr_metHigh, .inl (cI, 18, .inl o_23)), (qy, .inr (4, [.ref qn, .ref qy_far, .int o_25])), (qy_far, .inl (cI, 9, .inl o_24))] (As := [.int s0, .int n_room]) (rest := []) ⟨hx, hb, hml, hown, hts⟩ hT hZ hA hP hD hS (c_X2_take l D cI cZ cN aK aV qv qr qr_visited qr_metLow qr_metHigh qy qy_far qn qn_low qn_high qn_length v_joined v_arrived v_lostInVain v_costs v_trueLengths v_longestList v_longestListArrived v_mostSteps v_dearer r_steps r_cost r_cause r_place r_computed r_list r_listed r_visited r_metLow r_metHigh y_far y_usable n_nodes n_links n_room n_alive n_inMap n_low n_high n_length s0 n_room o_5 o_6 o_7 o_8 o_9 o_10 o_11 o_12 o_13 o_14 o_15 o_16 o_17 o_18 o_19 o_20 o_21 o_22 o_23 o_24 o_25 hc_26) ⟨callB_of 2 hts (k_good u_555) rfl rfl rfl (hu _ u_49) (hu _ u_552) (by decide +kernel) ⟨Nat.le_of_ble_eq_true rfl, Nat.le_of_ble_eq_true rfl⟩, hu _ u_553, hu _ u_554⟩ rfl rfl rfl (by decide) (by decide) (by decide) rfl rfl rfl rfl hl.1 rfl (Nat.le_of_ble_eq_true rfl) dX5_all_40 (fun H locs hP hD hS => ?_)
    have hP : va_P D vwCl [(qy, .inr (4, [.ref qn, .ref qy_far, .int o_25])), (qy_far, .inl (cI, 9, .inl o_24)), (qv, .inr (2, [.ref qn, .ref qy, .ref qr, .int o_5, .int o_6, .int o_7, .int o_8, .int o_9, .int o_10, .int o_11, .int o_12, .int o_13])), (qr, .inr (0, [.ref qn, .ref qy, .int o_14, .int o_15, .int o_16, .int o_17, .int o_18, .int o_19, .int o_20, .ref qr_visited, .ref qr_metLow, .ref qr_metHigh])), (qr_visited, .inl (cI, 41, .inl o_21)), (qr_metLow, .inl (cI, 18, .inl o_22)), (qr_metHigh, .inl (cI, 18, .inl o_23)), (qx, .inr (5, [.ref qn, .ref qd, .ref qx_history, .int x_undoable, .ref qx_images, .ref qx_kept, .ref qy, .ref qt, .int x_letterSent, .int x_letterFits, .ref qv, .ref qz])), (qn, .inr (1, [.int n_nodes, .int n_links, .int n_room, .int n_alive, .int n_inMap, .ref qn_low, .ref qn_high, .ref qn_length])), (qn_low, .inl (cI, 18, .inl n_low)), (qn_high, .inl (cI, 18, .inl n_high)), (qn_length, .inl (cI, 18, .inl n_length))] H := hP
    have hD : va_D A [(qy, .inr (4, [.ref qn, .ref qy_far, .int o_25])), (qy_far, .inl (cI, 9, .inl o_24)), (qv, .inr (2, [.ref qn, .ref qy, .ref qr, .int o_5, .int o_6, .int o_7, .int o_8, .int o_9, .int o_10, .int o_11, .int o_12, .int o_13])), (qr, .inr (0, [.ref qn, .ref qy, .int o_14, .int o_15, .int o_16, .int o_17, .int o_18, .int o_19, .int o_20, .ref qr_visited, .ref qr_metLow, .ref qr_metHigh])), (qr_visited, .inl (cI, 41, .inl o_21)), (qr_metLow, .inl (cI, 18, .inl o_22)), (qr_metHigh, .inl (cI, 18, .inl o_23)), (qx, .inr (5, [.ref qn, .ref qd, .ref qx_history, .int x_undoable, .ref qx_images, .ref qx_kept, .ref qy, .ref qt, .int x_letterSent, .int x_letterFits, .ref qv, .ref qz])), (qn, .inr (1, [.int n_nodes, .int n_links, .int n_room, .int n_alive, .int n_inMap, .ref qn_low, .ref qn_high, .ref qn_length])), (qn_low, .inl (cI, 18, .inl n_low)), (qn_high, .inl (cI, 18, .inl n_high)), (qn_length, .inl (cI, 18, .inl n_length))] := hD
    refine lv_iload_n hx hb dX5_all_43 rfl (lv_at hl 1 rfl) ?_
    by_cases sw_27 : x1 = (0 : Int32)
    · have h := (if_pos sw_27).symm.trans h
      refine lv_tableIn (tgt := 88) hx hb dX5_all_44 (by rw [sw_27]; decide) (by rw [sw_27]; decide) (by rw [sw_27]; rfl) (by decide) ?_
      refine lv_aload_n hx hb dX5_all_88 rfl (lv_at hl 0 rfl) ?_
      refine va_get (D := D) (ci := 5) (v := .ref qv) (C := RX5) (T := TX5) (N := 12) hx hb hu k_iX5 hown hK hP 7 rfl rfl 10 (by decide) (hu _ u_293) (fun _ h9 => h9) rfl dX5_all_89 ?_
      refine va_get (D := D) (ci := 2) (v := .int o_5) (C := RX2) (T := TX2) (N := 12) hx hb hu k_iX2 hown hK hP 2 rfl rfl 3 (by decide) (hu _ u_205) (fun _ h9 => h9) rfl dX5_all_92 ?_
      have hq := Option.some.inj h
      clear h
      obtain ⟨e0, hq0⟩ := Prod.mk.inj hq
      clear hq
      obtain ⟨e1, hq1⟩ := Prod.mk.inj hq0
      clear hq0
      obtain ⟨e2, hq2⟩ := Prod.mk.inj hq1
      clear hq1
      obtain ⟨e3, hq3⟩ := Prod.mk.inj hq2
      clear hq2
      obtain ⟨e4, hq4⟩ := Prod.mk.inj hq3
      clear hq3
      obtain ⟨e5, hq5⟩ := Prod.mk.inj hq4
      clear hq4
      obtain ⟨e6, hq6⟩ := Prod.mk.inj hq5
      clear hq5
      obtain ⟨e7, hq7⟩ := Prod.mk.inj hq6
      clear hq6
      obtain ⟨e8, hq8⟩ := Prod.mk.inj hq7
      clear hq7
      obtain ⟨e9, hq9⟩ := Prod.mk.inj hq8
      clear hq8
      obtain ⟨e10, hq10⟩ := Prod.mk.inj hq9
      clear hq9
      obtain ⟨e11, hq11⟩ := Prod.mk.inj hq10
      clear hq10
      obtain ⟨e12, hq12⟩ := Prod.mk.inj hq11
      clear hq11
      obtain ⟨e13, hq13⟩ := Prod.mk.inj hq12
      clear hq12
      obtain ⟨e14, hq14⟩ := Prod.mk.inj hq13
      clear hq13
      obtain ⟨e15, hq15⟩ := Prod.mk.inj hq14
      clear hq14
      obtain ⟨e16, hq16⟩ := Prod.mk.inj hq15
      clear hq15
      obtain ⟨e17, hq17⟩ := Prod.mk.inj hq16
      clear hq16
      obtain ⟨e18, hq18⟩ := Prod.mk.inj hq17
      clear hq17
      obtain ⟨e19, hq19⟩ := Prod.mk.inj hq18
      clear hq18
      obtain ⟨e20, hq20⟩ := Prod.mk.inj hq19
      clear hq19
      subst e0
      subst e1
      subst e2
      subst e3
      subst e4
      subst e5
      subst e6
      subst e7
      subst e8
      subst e9
      subst e10
      subst e11
      subst e12
      subst e13
      subst e14
      subst e15
      subst e16
      subst e17
      subst e18
      subst e19
      subst e20
      subst hq20
      exact k_retI hx hb hr hlocks hP hD hS dX5_all_95
    have h := (if_neg sw_27).symm.trans h
    by_cases sw_28 : x1 = (1 : Int32)
    · have h := (if_pos sw_28).symm.trans h
      refine lv_tableIn (tgt := 96) hx hb dX5_all_44 (by rw [sw_28]; decide) (by rw [sw_28]; decide) (by rw [sw_28]; rfl) (by decide) ?_
      refine lv_aload_n hx hb dX5_all_96 rfl (lv_at hl 0 rfl) ?_
      refine va_get (D := D) (ci := 5) (v := .ref qv) (C := RX5) (T := TX5) (N := 12) hx hb hu k_iX5 hown hK hP 7 rfl rfl 10 (by decide) (hu _ u_293) (fun _ h9 => h9) rfl dX5_all_97 ?_
      refine va_get (D := D) (ci := 2) (v := .int o_6) (C := RX2) (T := TX2) (N := 12) hx hb hu k_iX2 hown hK hP 2 rfl rfl 4 (by decide) (hu _ u_207) (fun _ h9 => h9) rfl dX5_all_100 ?_
      have hq := Option.some.inj h
      clear h
      obtain ⟨e0, hq0⟩ := Prod.mk.inj hq
      clear hq
      obtain ⟨e1, hq1⟩ := Prod.mk.inj hq0
      clear hq0
      obtain ⟨e2, hq2⟩ := Prod.mk.inj hq1
      clear hq1
      obtain ⟨e3, hq3⟩ := Prod.mk.inj hq2
      clear hq2
      obtain ⟨e4, hq4⟩ := Prod.mk.inj hq3
      clear hq3
      obtain ⟨e5, hq5⟩ := Prod.mk.inj hq4
      clear hq4
      obtain ⟨e6, hq6⟩ := Prod.mk.inj hq5
      clear hq5
      obtain ⟨e7, hq7⟩ := Prod.mk.inj hq6
      clear hq6
      obtain ⟨e8, hq8⟩ := Prod.mk.inj hq7
      clear hq7
      obtain ⟨e9, hq9⟩ := Prod.mk.inj hq8
      clear hq8
      obtain ⟨e10, hq10⟩ := Prod.mk.inj hq9
      clear hq9
      obtain ⟨e11, hq11⟩ := Prod.mk.inj hq10
      clear hq10
      obtain ⟨e12, hq12⟩ := Prod.mk.inj hq11
      clear hq11
      obtain ⟨e13, hq13⟩ := Prod.mk.inj hq12
      clear hq12
      obtain ⟨e14, hq14⟩ := Prod.mk.inj hq13
      clear hq13
      obtain ⟨e15, hq15⟩ := Prod.mk.inj hq14
      clear hq14
      obtain ⟨e16, hq16⟩ := Prod.mk.inj hq15
      clear hq15
      obtain ⟨e17, hq17⟩ := Prod.mk.inj hq16
      clear hq16
      obtain ⟨e18, hq18⟩ := Prod.mk.inj hq17
      clear hq17
      obtain ⟨e19, hq19⟩ := Prod.mk.inj hq18
      clear hq18
      obtain ⟨e20, hq20⟩ := Prod.mk.inj hq19
      clear hq19
      subst e0
      subst e1
      subst e2
      subst e3
      subst e4
      subst e5
      subst e6
      subst e7
      subst e8
      subst e9
      subst e10
      subst e11
      subst e12
      subst e13
      subst e14
      subst e15
      subst e16
      subst e17
      subst e18
      subst e19
      subst e20
      subst hq20
      exact k_retI hx hb hr hlocks hP hD hS dX5_all_103
    have h := (if_neg sw_28).symm.trans h
    by_cases sw_29 : x1 = (2 : Int32)
    · have h := (if_pos sw_29).symm.trans h
      refine lv_tableIn (tgt := 104) hx hb dX5_all_44 (by rw [sw_29]; decide) (by rw [sw_29]; decide) (by rw [sw_29]; rfl) (by decide) ?_
      refine lv_aload_n hx hb dX5_all_104 rfl (lv_at hl 0 rfl) ?_
      refine va_get (D := D) (ci := 5) (v := .ref qv) (C := RX5) (T := TX5) (N := 12) hx hb hu k_iX5 hown hK hP 7 rfl rfl 10 (by decide) (hu _ u_293) (fun _ h9 => h9) rfl dX5_all_105 ?_
      refine va_get (D := D) (ci := 2) (v := .int o_7) (C := RX2) (T := TX2) (N := 12) hx hb hu k_iX2 hown hK hP 2 rfl rfl 5 (by decide) (hu _ u_209) (fun _ h9 => h9) rfl dX5_all_108 ?_
      have hq := Option.some.inj h
      clear h
      obtain ⟨e0, hq0⟩ := Prod.mk.inj hq
      clear hq
      obtain ⟨e1, hq1⟩ := Prod.mk.inj hq0
      clear hq0
      obtain ⟨e2, hq2⟩ := Prod.mk.inj hq1
      clear hq1
      obtain ⟨e3, hq3⟩ := Prod.mk.inj hq2
      clear hq2
      obtain ⟨e4, hq4⟩ := Prod.mk.inj hq3
      clear hq3
      obtain ⟨e5, hq5⟩ := Prod.mk.inj hq4
      clear hq4
      obtain ⟨e6, hq6⟩ := Prod.mk.inj hq5
      clear hq5
      obtain ⟨e7, hq7⟩ := Prod.mk.inj hq6
      clear hq6
      obtain ⟨e8, hq8⟩ := Prod.mk.inj hq7
      clear hq7
      obtain ⟨e9, hq9⟩ := Prod.mk.inj hq8
      clear hq8
      obtain ⟨e10, hq10⟩ := Prod.mk.inj hq9
      clear hq9
      obtain ⟨e11, hq11⟩ := Prod.mk.inj hq10
      clear hq10
      obtain ⟨e12, hq12⟩ := Prod.mk.inj hq11
      clear hq11
      obtain ⟨e13, hq13⟩ := Prod.mk.inj hq12
      clear hq12
      obtain ⟨e14, hq14⟩ := Prod.mk.inj hq13
      clear hq13
      obtain ⟨e15, hq15⟩ := Prod.mk.inj hq14
      clear hq14
      obtain ⟨e16, hq16⟩ := Prod.mk.inj hq15
      clear hq15
      obtain ⟨e17, hq17⟩ := Prod.mk.inj hq16
      clear hq16
      obtain ⟨e18, hq18⟩ := Prod.mk.inj hq17
      clear hq17
      obtain ⟨e19, hq19⟩ := Prod.mk.inj hq18
      clear hq18
      obtain ⟨e20, hq20⟩ := Prod.mk.inj hq19
      clear hq19
      subst e0
      subst e1
      subst e2
      subst e3
      subst e4
      subst e5
      subst e6
      subst e7
      subst e8
      subst e9
      subst e10
      subst e11
      subst e12
      subst e13
      subst e14
      subst e15
      subst e16
      subst e17
      subst e18
      subst e19
      subst e20
      subst hq20
      exact k_retI hx hb hr hlocks hP hD hS dX5_all_111
    have h := (if_neg sw_29).symm.trans h
    by_cases sw_30 : x1 = (3 : Int32)
    · have h := (if_pos sw_30).symm.trans h
      refine lv_tableIn (tgt := 112) hx hb dX5_all_44 (by rw [sw_30]; decide) (by rw [sw_30]; decide) (by rw [sw_30]; rfl) (by decide) ?_
      refine lv_aload_n hx hb dX5_all_112 rfl (lv_at hl 0 rfl) ?_
      refine va_get (D := D) (ci := 5) (v := .ref qv) (C := RX5) (T := TX5) (N := 12) hx hb hu k_iX5 hown hK hP 7 rfl rfl 10 (by decide) (hu _ u_293) (fun _ h9 => h9) rfl dX5_all_113 ?_
      refine va_get (D := D) (ci := 2) (v := .int o_8) (C := RX2) (T := TX2) (N := 12) hx hb hu k_iX2 hown hK hP 2 rfl rfl 6 (by decide) (hu _ u_211) (fun _ h9 => h9) rfl dX5_all_116 ?_
      have hq := Option.some.inj h
      clear h
      obtain ⟨e0, hq0⟩ := Prod.mk.inj hq
      clear hq
      obtain ⟨e1, hq1⟩ := Prod.mk.inj hq0
      clear hq0
      obtain ⟨e2, hq2⟩ := Prod.mk.inj hq1
      clear hq1
      obtain ⟨e3, hq3⟩ := Prod.mk.inj hq2
      clear hq2
      obtain ⟨e4, hq4⟩ := Prod.mk.inj hq3
      clear hq3
      obtain ⟨e5, hq5⟩ := Prod.mk.inj hq4
      clear hq4
      obtain ⟨e6, hq6⟩ := Prod.mk.inj hq5
      clear hq5
      obtain ⟨e7, hq7⟩ := Prod.mk.inj hq6
      clear hq6
      obtain ⟨e8, hq8⟩ := Prod.mk.inj hq7
      clear hq7
      obtain ⟨e9, hq9⟩ := Prod.mk.inj hq8
      clear hq8
      obtain ⟨e10, hq10⟩ := Prod.mk.inj hq9
      clear hq9
      obtain ⟨e11, hq11⟩ := Prod.mk.inj hq10
      clear hq10
      obtain ⟨e12, hq12⟩ := Prod.mk.inj hq11
      clear hq11
      obtain ⟨e13, hq13⟩ := Prod.mk.inj hq12
      clear hq12
      obtain ⟨e14, hq14⟩ := Prod.mk.inj hq13
      clear hq13
      obtain ⟨e15, hq15⟩ := Prod.mk.inj hq14
      clear hq14
      obtain ⟨e16, hq16⟩ := Prod.mk.inj hq15
      clear hq15
      obtain ⟨e17, hq17⟩ := Prod.mk.inj hq16
      clear hq16
      obtain ⟨e18, hq18⟩ := Prod.mk.inj hq17
      clear hq17
      obtain ⟨e19, hq19⟩ := Prod.mk.inj hq18
      clear hq18
      obtain ⟨e20, hq20⟩ := Prod.mk.inj hq19
      clear hq19
      subst e0
      subst e1
      subst e2
      subst e3
      subst e4
      subst e5
      subst e6
      subst e7
      subst e8
      subst e9
      subst e10
      subst e11
      subst e12
      subst e13
      subst e14
      subst e15
      subst e16
      subst e17
      subst e18
      subst e19
      subst e20
      subst hq20
      exact k_retI hx hb hr hlocks hP hD hS dX5_all_119
    have h := (if_neg sw_30).symm.trans h
    by_cases sw_31 : x1 = (4 : Int32)
    · have h := (if_pos sw_31).symm.trans h
      refine lv_tableIn (tgt := 120) hx hb dX5_all_44 (by rw [sw_31]; decide) (by rw [sw_31]; decide) (by rw [sw_31]; rfl) (by decide) ?_
      refine lv_aload_n hx hb dX5_all_120 rfl (lv_at hl 0 rfl) ?_
      refine va_get (D := D) (ci := 5) (v := .ref qv) (C := RX5) (T := TX5) (N := 12) hx hb hu k_iX5 hown hK hP 7 rfl rfl 10 (by decide) (hu _ u_293) (fun _ h9 => h9) rfl dX5_all_121 ?_
      refine va_get (D := D) (ci := 2) (v := .int o_9) (C := RX2) (T := TX2) (N := 12) hx hb hu k_iX2 hown hK hP 2 rfl rfl 7 (by decide) (hu _ u_213) (fun _ h9 => h9) rfl dX5_all_124 ?_
      have hq := Option.some.inj h
      clear h
      obtain ⟨e0, hq0⟩ := Prod.mk.inj hq
      clear hq
      obtain ⟨e1, hq1⟩ := Prod.mk.inj hq0
      clear hq0
      obtain ⟨e2, hq2⟩ := Prod.mk.inj hq1
      clear hq1
      obtain ⟨e3, hq3⟩ := Prod.mk.inj hq2
      clear hq2
      obtain ⟨e4, hq4⟩ := Prod.mk.inj hq3
      clear hq3
      obtain ⟨e5, hq5⟩ := Prod.mk.inj hq4
      clear hq4
      obtain ⟨e6, hq6⟩ := Prod.mk.inj hq5
      clear hq5
      obtain ⟨e7, hq7⟩ := Prod.mk.inj hq6
      clear hq6
      obtain ⟨e8, hq8⟩ := Prod.mk.inj hq7
      clear hq7
      obtain ⟨e9, hq9⟩ := Prod.mk.inj hq8
      clear hq8
      obtain ⟨e10, hq10⟩ := Prod.mk.inj hq9
      clear hq9
      obtain ⟨e11, hq11⟩ := Prod.mk.inj hq10
      clear hq10
      obtain ⟨e12, hq12⟩ := Prod.mk.inj hq11
      clear hq11
      obtain ⟨e13, hq13⟩ := Prod.mk.inj hq12
      clear hq12
      obtain ⟨e14, hq14⟩ := Prod.mk.inj hq13
      clear hq13
      obtain ⟨e15, hq15⟩ := Prod.mk.inj hq14
      clear hq14
      obtain ⟨e16, hq16⟩ := Prod.mk.inj hq15
      clear hq15
      obtain ⟨e17, hq17⟩ := Prod.mk.inj hq16
      clear hq16
      obtain ⟨e18, hq18⟩ := Prod.mk.inj hq17
      clear hq17
      obtain ⟨e19, hq19⟩ := Prod.mk.inj hq18
      clear hq18
      obtain ⟨e20, hq20⟩ := Prod.mk.inj hq19
      clear hq19
      subst e0
      subst e1
      subst e2
      subst e3
      subst e4
      subst e5
      subst e6
      subst e7
      subst e8
      subst e9
      subst e10
      subst e11
      subst e12
      subst e13
      subst e14
      subst e15
      subst e16
      subst e17
      subst e18
      subst e19
      subst e20
      subst hq20
      exact k_retI hx hb hr hlocks hP hD hS dX5_all_127
    have h := (if_neg sw_31).symm.trans h
    by_cases sw_32 : x1 = (5 : Int32)
    · have h := (if_pos sw_32).symm.trans h
      refine lv_tableIn (tgt := 128) hx hb dX5_all_44 (by rw [sw_32]; decide) (by rw [sw_32]; decide) (by rw [sw_32]; rfl) (by decide) ?_
      refine lv_aload_n hx hb dX5_all_128 rfl (lv_at hl 0 rfl) ?_
      refine va_get (D := D) (ci := 5) (v := .ref qv) (C := RX5) (T := TX5) (N := 12) hx hb hu k_iX5 hown hK hP 7 rfl rfl 10 (by decide) (hu _ u_293) (fun _ h9 => h9) rfl dX5_all_129 ?_
      refine va_get (D := D) (ci := 2) (v := .int o_10) (C := RX2) (T := TX2) (N := 12) hx hb hu k_iX2 hown hK hP 2 rfl rfl 8 (by decide) (hu _ u_215) (fun _ h9 => h9) rfl dX5_all_132 ?_
      have hq := Option.some.inj h
      clear h
      obtain ⟨e0, hq0⟩ := Prod.mk.inj hq
      clear hq
      obtain ⟨e1, hq1⟩ := Prod.mk.inj hq0
      clear hq0
      obtain ⟨e2, hq2⟩ := Prod.mk.inj hq1
      clear hq1
      obtain ⟨e3, hq3⟩ := Prod.mk.inj hq2
      clear hq2
      obtain ⟨e4, hq4⟩ := Prod.mk.inj hq3
      clear hq3
      obtain ⟨e5, hq5⟩ := Prod.mk.inj hq4
      clear hq4
      obtain ⟨e6, hq6⟩ := Prod.mk.inj hq5
      clear hq5
      obtain ⟨e7, hq7⟩ := Prod.mk.inj hq6
      clear hq6
      obtain ⟨e8, hq8⟩ := Prod.mk.inj hq7
      clear hq7
      obtain ⟨e9, hq9⟩ := Prod.mk.inj hq8
      clear hq8
      obtain ⟨e10, hq10⟩ := Prod.mk.inj hq9
      clear hq9
      obtain ⟨e11, hq11⟩ := Prod.mk.inj hq10
      clear hq10
      obtain ⟨e12, hq12⟩ := Prod.mk.inj hq11
      clear hq11
      obtain ⟨e13, hq13⟩ := Prod.mk.inj hq12
      clear hq12
      obtain ⟨e14, hq14⟩ := Prod.mk.inj hq13
      clear hq13
      obtain ⟨e15, hq15⟩ := Prod.mk.inj hq14
      clear hq14
      obtain ⟨e16, hq16⟩ := Prod.mk.inj hq15
      clear hq15
      obtain ⟨e17, hq17⟩ := Prod.mk.inj hq16
      clear hq16
      obtain ⟨e18, hq18⟩ := Prod.mk.inj hq17
      clear hq17
      obtain ⟨e19, hq19⟩ := Prod.mk.inj hq18
      clear hq18
      obtain ⟨e20, hq20⟩ := Prod.mk.inj hq19
      clear hq19
      subst e0
      subst e1
      subst e2
      subst e3
      subst e4
      subst e5
      subst e6
      subst e7
      subst e8
      subst e9
      subst e10
      subst e11
      subst e12
      subst e13
      subst e14
      subst e15
      subst e16
      subst e17
      subst e18
      subst e19
      subst e20
      subst hq20
      exact k_retI hx hb hr hlocks hP hD hS dX5_all_135
    have h := (if_neg sw_32).symm.trans h
    by_cases sw_33 : x1 = (6 : Int32)
    · have h := (if_pos sw_33).symm.trans h
      refine lv_tableIn (tgt := 136) hx hb dX5_all_44 (by rw [sw_33]; decide) (by rw [sw_33]; decide) (by rw [sw_33]; rfl) (by decide) ?_
      refine lv_aload_n hx hb dX5_all_136 rfl (lv_at hl 0 rfl) ?_
      refine va_get (D := D) (ci := 5) (v := .ref qv) (C := RX5) (T := TX5) (N := 12) hx hb hu k_iX5 hown hK hP 7 rfl rfl 10 (by decide) (hu _ u_293) (fun _ h9 => h9) rfl dX5_all_137 ?_
      refine va_get (D := D) (ci := 2) (v := .int o_12) (C := RX2) (T := TX2) (N := 12) hx hb hu k_iX2 hown hK hP 2 rfl rfl 10 (by decide) (hu _ u_219) (fun _ h9 => h9) rfl dX5_all_140 ?_
      have hq := Option.some.inj h
      clear h
      obtain ⟨e0, hq0⟩ := Prod.mk.inj hq
      clear hq
      obtain ⟨e1, hq1⟩ := Prod.mk.inj hq0
      clear hq0
      obtain ⟨e2, hq2⟩ := Prod.mk.inj hq1
      clear hq1
      obtain ⟨e3, hq3⟩ := Prod.mk.inj hq2
      clear hq2
      obtain ⟨e4, hq4⟩ := Prod.mk.inj hq3
      clear hq3
      obtain ⟨e5, hq5⟩ := Prod.mk.inj hq4
      clear hq4
      obtain ⟨e6, hq6⟩ := Prod.mk.inj hq5
      clear hq5
      obtain ⟨e7, hq7⟩ := Prod.mk.inj hq6
      clear hq6
      obtain ⟨e8, hq8⟩ := Prod.mk.inj hq7
      clear hq7
      obtain ⟨e9, hq9⟩ := Prod.mk.inj hq8
      clear hq8
      obtain ⟨e10, hq10⟩ := Prod.mk.inj hq9
      clear hq9
      obtain ⟨e11, hq11⟩ := Prod.mk.inj hq10
      clear hq10
      obtain ⟨e12, hq12⟩ := Prod.mk.inj hq11
      clear hq11
      obtain ⟨e13, hq13⟩ := Prod.mk.inj hq12
      clear hq12
      obtain ⟨e14, hq14⟩ := Prod.mk.inj hq13
      clear hq13
      obtain ⟨e15, hq15⟩ := Prod.mk.inj hq14
      clear hq14
      obtain ⟨e16, hq16⟩ := Prod.mk.inj hq15
      clear hq15
      obtain ⟨e17, hq17⟩ := Prod.mk.inj hq16
      clear hq16
      obtain ⟨e18, hq18⟩ := Prod.mk.inj hq17
      clear hq17
      obtain ⟨e19, hq19⟩ := Prod.mk.inj hq18
      clear hq18
      obtain ⟨e20, hq20⟩ := Prod.mk.inj hq19
      clear hq19
      subst e0
      subst e1
      subst e2
      subst e3
      subst e4
      subst e5
      subst e6
      subst e7
      subst e8
      subst e9
      subst e10
      subst e11
      subst e12
      subst e13
      subst e14
      subst e15
      subst e16
      subst e17
      subst e18
      subst e19
      subst e20
      subst hq20
      exact k_retI hx hb hr hlocks hP hD hS dX5_all_143
    have h := (if_neg sw_33).symm.trans h
    refine lv_tableOut (tgt := 144) hx hb dX5_all_44 (k_swo 0 6 (by decide) (by decide) (by intro j h1 h2; rcases (show j = 0 ∨ j = 1 ∨ j = 2 ∨ j = 3 ∨ j = 4 ∨ j = 5 ∨ j = 6 by omega) with rfl | rfl | rfl | rfl | rfl | rfl | rfl <;> assumption)) (by decide) ?_
    refine lv_aload_n hx hb dX5_all_144 rfl (lv_at hl 0 rfl) ?_
    refine va_get (D := D) (ci := 5) (v := .ref qv) (C := RX5) (T := TX5) (N := 12) hx hb hu k_iX5 hown hK hP 7 rfl rfl 10 (by decide) (hu _ u_293) (fun _ h9 => h9) rfl dX5_all_145 ?_
    refine va_get (D := D) (ci := 2) (v := .int o_13) (C := RX2) (T := TX2) (N := 12) hx hb hu k_iX2 hown hK hP 2 rfl rfl 11 (by decide) (hu _ u_221) (fun _ h9 => h9) rfl dX5_all_148 ?_
    have hq := Option.some.inj h
    clear h
    obtain ⟨e0, hq0⟩ := Prod.mk.inj hq
    clear hq
    obtain ⟨e1, hq1⟩ := Prod.mk.inj hq0
    clear hq0
    obtain ⟨e2, hq2⟩ := Prod.mk.inj hq1
    clear hq1
    obtain ⟨e3, hq3⟩ := Prod.mk.inj hq2
    clear hq2
    obtain ⟨e4, hq4⟩ := Prod.mk.inj hq3
    clear hq3
    obtain ⟨e5, hq5⟩ := Prod.mk.inj hq4
    clear hq4
    obtain ⟨e6, hq6⟩ := Prod.mk.inj hq5
    clear hq5
    obtain ⟨e7, hq7⟩ := Prod.mk.inj hq6
    clear hq6
    obtain ⟨e8, hq8⟩ := Prod.mk.inj hq7
    clear hq7
    obtain ⟨e9, hq9⟩ := Prod.mk.inj hq8
    clear hq8
    obtain ⟨e10, hq10⟩ := Prod.mk.inj hq9
    clear hq9
    obtain ⟨e11, hq11⟩ := Prod.mk.inj hq10
    clear hq10
    obtain ⟨e12, hq12⟩ := Prod.mk.inj hq11
    clear hq11
    obtain ⟨e13, hq13⟩ := Prod.mk.inj hq12
    clear hq12
    obtain ⟨e14, hq14⟩ := Prod.mk.inj hq13
    clear hq13
    obtain ⟨e15, hq15⟩ := Prod.mk.inj hq14
    clear hq14
    obtain ⟨e16, hq16⟩ := Prod.mk.inj hq15
    clear hq15
    obtain ⟨e17, hq17⟩ := Prod.mk.inj hq16
    clear hq16
    obtain ⟨e18, hq18⟩ := Prod.mk.inj hq17
    clear hq17
    obtain ⟨e19, hq19⟩ := Prod.mk.inj hq18
    clear hq18
    obtain ⟨e20, hq20⟩ := Prod.mk.inj hq19
    clear hq19
    subst e0
    subst e1
    subst e2
    subst e3
    subst e4
    subst e5
    subst e6
    subst e7
    subst e8
    subst e9
    subst e10
    subst e11
    subst e12
    subst e13
    subst e14
    subst e15
    subst e16
    subst e17
    subst e18
    subst e19
    subst e20
    subst hq20
    exact k_retI hx hb hr hlocks hP hD hS dX5_all_151
  refine lv_iload_n hx hb dX5_all_0 rfl (lv_at hl 1 rfl) ?_
  refine lv_if_lt (tgt := 17) hx hb dX5_all_1 (by decide) (fun cc_1 => ?_) (fun cc_1 => ?_)
  · have h := (if_pos cc_1).symm.trans h
    refine lv_iconst (v := (-1 : Int32)) hx hb dX5_all_17 (by decide) ?_
    have hq := Option.some.inj h
    clear h
    obtain ⟨e0, hq0⟩ := Prod.mk.inj hq
    clear hq
    obtain ⟨e1, hq1⟩ := Prod.mk.inj hq0
    clear hq0
    obtain ⟨e2, hq2⟩ := Prod.mk.inj hq1
    clear hq1
    obtain ⟨e3, hq3⟩ := Prod.mk.inj hq2
    clear hq2
    obtain ⟨e4, hq4⟩ := Prod.mk.inj hq3
    clear hq3
    obtain ⟨e5, hq5⟩ := Prod.mk.inj hq4
    clear hq4
    obtain ⟨e6, hq6⟩ := Prod.mk.inj hq5
    clear hq5
    obtain ⟨e7, hq7⟩ := Prod.mk.inj hq6
    clear hq6
    obtain ⟨e8, hq8⟩ := Prod.mk.inj hq7
    clear hq7
    obtain ⟨e9, hq9⟩ := Prod.mk.inj hq8
    clear hq8
    obtain ⟨e10, hq10⟩ := Prod.mk.inj hq9
    clear hq9
    obtain ⟨e11, hq11⟩ := Prod.mk.inj hq10
    clear hq10
    obtain ⟨e12, hq12⟩ := Prod.mk.inj hq11
    clear hq11
    obtain ⟨e13, hq13⟩ := Prod.mk.inj hq12
    clear hq12
    obtain ⟨e14, hq14⟩ := Prod.mk.inj hq13
    clear hq13
    obtain ⟨e15, hq15⟩ := Prod.mk.inj hq14
    clear hq14
    obtain ⟨e16, hq16⟩ := Prod.mk.inj hq15
    clear hq15
    obtain ⟨e17, hq17⟩ := Prod.mk.inj hq16
    clear hq16
    obtain ⟨e18, hq18⟩ := Prod.mk.inj hq17
    clear hq17
    obtain ⟨e19, hq19⟩ := Prod.mk.inj hq18
    clear hq18
    obtain ⟨e20, hq20⟩ := Prod.mk.inj hq19
    clear hq19
    subst e0
    subst e1
    subst e2
    subst e3
    subst e4
    subst e5
    subst e6
    subst e7
    subst e8
    subst e9
    subst e10
    subst e11
    subst e12
    subst e13
    subst e14
    subst e15
    subst e16
    subst e17
    subst e18
    subst e19
    subst e20
    subst hq20
    exact k_retI hx hb hr hlocks hP hD hS dX5_all_18
  · have h := (if_neg cc_1).symm.trans h
    refine lv_iload_n hx hb dX5_all_4 rfl (lv_at hl 1 rfl) ?_
    refine lv_bipush (v := (7 : Int32)) hx hb dX5_all_5 (by decide) ?_
    refine lv_icmp_gt (tgt := 17) hx hb dX5_all_7 (by decide) (fun cc_2 => ?_) (fun cc_2 => ?_)
    · have h := (if_pos cc_2).symm.trans h
      refine lv_iconst (v := (-1 : Int32)) hx hb dX5_all_17 (by decide) ?_
      have hq := Option.some.inj h
      clear h
      obtain ⟨e0, hq0⟩ := Prod.mk.inj hq
      clear hq
      obtain ⟨e1, hq1⟩ := Prod.mk.inj hq0
      clear hq0
      obtain ⟨e2, hq2⟩ := Prod.mk.inj hq1
      clear hq1
      obtain ⟨e3, hq3⟩ := Prod.mk.inj hq2
      clear hq2
      obtain ⟨e4, hq4⟩ := Prod.mk.inj hq3
      clear hq3
      obtain ⟨e5, hq5⟩ := Prod.mk.inj hq4
      clear hq4
      obtain ⟨e6, hq6⟩ := Prod.mk.inj hq5
      clear hq5
      obtain ⟨e7, hq7⟩ := Prod.mk.inj hq6
      clear hq6
      obtain ⟨e8, hq8⟩ := Prod.mk.inj hq7
      clear hq7
      obtain ⟨e9, hq9⟩ := Prod.mk.inj hq8
      clear hq8
      obtain ⟨e10, hq10⟩ := Prod.mk.inj hq9
      clear hq9
      obtain ⟨e11, hq11⟩ := Prod.mk.inj hq10
      clear hq10
      obtain ⟨e12, hq12⟩ := Prod.mk.inj hq11
      clear hq11
      obtain ⟨e13, hq13⟩ := Prod.mk.inj hq12
      clear hq12
      obtain ⟨e14, hq14⟩ := Prod.mk.inj hq13
      clear hq13
      obtain ⟨e15, hq15⟩ := Prod.mk.inj hq14
      clear hq14
      obtain ⟨e16, hq16⟩ := Prod.mk.inj hq15
      clear hq15
      obtain ⟨e17, hq17⟩ := Prod.mk.inj hq16
      clear hq16
      obtain ⟨e18, hq18⟩ := Prod.mk.inj hq17
      clear hq17
      obtain ⟨e19, hq19⟩ := Prod.mk.inj hq18
      clear hq18
      obtain ⟨e20, hq20⟩ := Prod.mk.inj hq19
      clear hq19
      subst e0
      subst e1
      subst e2
      subst e3
      subst e4
      subst e5
      subst e6
      subst e7
      subst e8
      subst e9
      subst e10
      subst e11
      subst e12
      subst e13
      subst e14
      subst e15
      subst e16
      subst e17
      subst e18
      subst e19
      subst e20
      subst hq20
      exact k_retI hx hb hr hlocks hP hD hS dX5_all_18
    · have h := (if_neg cc_2).symm.trans h
      refine lv_iload_n hx hb dX5_all_10 rfl (lv_at hl 2 rfl) ?_
      refine k_call0 (As := [.int p2]) (rest := []) ⟨hx, hb, hml, hown, hts⟩ hT hZ hA hP hD hS (c_X5_isFlag l D cI cZ cN aK aV p2 _ rfl) ⟨callB_of 1 hts (k_good u_390) rfl rfl rfl (hu _ u_45) (hu _ u_388) (by decide +kernel) ⟨Nat.le_of_ble_eq_true rfl, Nat.le_of_ble_eq_true rfl⟩, hu _ u_389⟩ rfl hl.1 rfl (Nat.le_of_ble_eq_true rfl) dX5_all_11 (fun H locs hP hD hS => ?_)
      refine lv_if_ne (tgt := 19) hx hb dX5_all_14 (by decide) (fun cc_3 => ?_) (fun cc_3 => ?_)
      · have h := (if_neg cc_3).symm.trans h
        refine lv_aload_n hx hb dX5_all_19 rfl (lv_at hl 0 rfl) ?_
        refine va_get (D := D) (ci := 5) (v := .ref qv) (C := RX5) (T := TX5) (N := 12) hx hb hu k_iX5 hown hK hP 7 rfl rfl 10 (by decide) (hu _ u_293) (fun _ h9 => h9) rfl dX5_all_20 ?_
        refine lv_iload_n hx hb dX5_all_23 rfl (lv_at hl 2 rfl) ?_
        refine lv_iconst (v := (1 : Int32)) hx hb dX5_all_24 (by decide) ?_
        refine lv_icmp_ne (tgt := 32) hx hb dX5_all_25 (by decide) (fun cc_4 => ?_) (fun cc_4 => ?_)
        · have h := (if_neg cc_4).symm.trans h
          refine lv_iconst (v := (0 : Int32)) hx hb dX5_all_32 (by decide) ?_
          exact w33 p1 (0 : Int32) n_nodes n_links n_room n_alive n_inMap n_low n_high n_length y_far y_usable v_joined v_arrived v_lostInVain v_costs v_trueLengths v_longestList v_longestListArrived v_mostSteps v_dearer r_steps r_cost r_cause r_place r_computed r_list r_listed r_visited r_metLow r_metHigh _ _ _ hP hD hS (lv_sub hl [0, 1] rfl) h
        · have h := (if_pos cc_4).symm.trans h
          refine lv_iconst (v := (1 : Int32)) hx hb dX5_all_28 (by decide) ?_
          refine lv_goto (tgt := 33) hx hb dX5_all_29 (by decide) ?_
          exact w33 p1 (1 : Int32) n_nodes n_links n_room n_alive n_inMap n_low n_high n_length y_far y_usable v_joined v_arrived v_lostInVain v_costs v_trueLengths v_longestList v_longestListArrived v_mostSteps v_dearer r_steps r_cost r_cause r_place r_computed r_list r_listed r_visited r_metLow r_metHigh _ _ _ hP hD hS (lv_sub hl [0, 1] rfl) h
      · have h := (if_pos cc_3).symm.trans h
        refine lv_iconst (v := (-1 : Int32)) hx hb dX5_all_17 (by decide) ?_
        have hq := Option.some.inj h
        clear h
        obtain ⟨e0, hq0⟩ := Prod.mk.inj hq
        clear hq
        obtain ⟨e1, hq1⟩ := Prod.mk.inj hq0
        clear hq0
        obtain ⟨e2, hq2⟩ := Prod.mk.inj hq1
        clear hq1
        obtain ⟨e3, hq3⟩ := Prod.mk.inj hq2
        clear hq2
        obtain ⟨e4, hq4⟩ := Prod.mk.inj hq3
        clear hq3
        obtain ⟨e5, hq5⟩ := Prod.mk.inj hq4
        clear hq4
        obtain ⟨e6, hq6⟩ := Prod.mk.inj hq5
        clear hq5
        obtain ⟨e7, hq7⟩ := Prod.mk.inj hq6
        clear hq6
        obtain ⟨e8, hq8⟩ := Prod.mk.inj hq7
        clear hq7
        obtain ⟨e9, hq9⟩ := Prod.mk.inj hq8
        clear hq8
        obtain ⟨e10, hq10⟩ := Prod.mk.inj hq9
        clear hq9
        obtain ⟨e11, hq11⟩ := Prod.mk.inj hq10
        clear hq10
        obtain ⟨e12, hq12⟩ := Prod.mk.inj hq11
        clear hq11
        obtain ⟨e13, hq13⟩ := Prod.mk.inj hq12
        clear hq12
        obtain ⟨e14, hq14⟩ := Prod.mk.inj hq13
        clear hq13
        obtain ⟨e15, hq15⟩ := Prod.mk.inj hq14
        clear hq14
        obtain ⟨e16, hq16⟩ := Prod.mk.inj hq15
        clear hq15
        obtain ⟨e17, hq17⟩ := Prod.mk.inj hq16
        clear hq16
        obtain ⟨e18, hq18⟩ := Prod.mk.inj hq17
        clear hq17
        obtain ⟨e19, hq19⟩ := Prod.mk.inj hq18
        clear hq18
        obtain ⟨e20, hq20⟩ := Prod.mk.inj hq19
        clear hq19
        subst e0
        subst e1
        subst e2
        subst e3
        subst e4
        subst e5
        subst e6
        subst e7
        subst e8
        subst e9
        subst e10
        subst e11
        subst e12
        subst e13
        subst e14
        subst e15
        subst e16
        subst e17
        subst e18
        subst e19
        subst e20
        subst hq20
        exact k_retI hx hb hr hlocks hP hD hS dX5_all_18
def f_X5_enoughRoom (n_nodes : Int32) (n_links : Int32) (n_alive : Int32) (n_inMap : Int32) (n_low : (Nat → Int32)) (n_high : (Nat → Int32)) (n_length : (Nat → Int32)) (y_far : (Nat → Int32)) (y_usable : Int32) (v_joined : Int32) (v_arrived : Int32) (v_lostInVain : Int32) (v_costs : Int32) (v_trueLengths : Int32) (v_longestList : Int32) (v_longestListArrived : Int32) (v_mostSteps : Int32) (v_dearer : Int32) (r_steps : Int32) (r_cost : Int32) (r_cause : Int32) (r_place : Int32) (r_computed : Int32) (r_list : Int32) (r_listed : Int32) (r_visited : (Nat → Int32)) (r_metLow : (Nat → Int32)) (r_metHigh : (Nat → Int32)) : Option (Int32 × (Nat → Int32) × Int32 × Int32 × Int32 × Int32 × Int32 × Int32 × Int32 × Int32 × Int32 × Int32 × Int32 × Int32 × Int32 × Int32 × Int32 × Int32 × Int32 × (Nat → Int32) × (Nat → Int32) × (Nat → Int32)) :=
  (f_X2_take (0 : Int32) (18 : Int32) v_joined v_arrived v_lostInVain v_costs v_trueLengths v_longestList v_longestListArrived v_mostSteps v_dearer r_steps r_cost r_cause r_place r_computed r_list r_listed r_visited r_metLow r_metHigh y_far y_usable n_nodes n_links n_alive n_inMap n_low n_high n_length).bind fun ⟨o_1, o_2, o_3, o_4, o_5, o_6, o_7, o_8, o_9, o_10, o_11, o_12, o_13, o_14, o_15, o_16, o_17, o_18, o_19, o_20, o_21⟩ =>
  some (o_7, o_20, o_21, o_1, o_2, o_3, o_4, o_5, o_6, o_7, o_8, o_9, o_10, o_11, o_12, o_13, o_14, o_15, o_16, o_17, o_18, o_19)
set_option maxHeartbeats 4000000 in
set_option maxRecDepth 100000 in
theorem c_X5_enoughRoom (l : Launch) (D : va_G) (cI cZ cN : ClassId) (aK aV : Nat → Nat)  (qx : Nat) (qx_history : Nat) (qx_images : Nat) (qx_kept : Nat) (qn : Nat) (qn_low : Nat) (qn_high : Nat) (qn_length : Nat) (qd : Nat) (qy : Nat) (qy_far : Nat) (qt : Nat) (qv : Nat) (qr : Nat) (qr_visited : Nat) (qr_metLow : Nat) (qr_metHigh : Nat) (qz : Nat) (x_undoable : Int32) (x_letterSent : Int32) (x_letterFits : Int32) (n_nodes : Int32) (n_links : Int32) (n_room : Int32) (n_alive : Int32) (n_inMap : Int32) (n_low : (Nat → Int32)) (n_high : (Nat → Int32)) (n_length : (Nat → Int32)) (y_far : (Nat → Int32)) (y_usable : Int32) (v_joined : Int32) (v_arrived : Int32) (v_lostInVain : Int32) (v_costs : Int32) (v_trueLengths : Int32) (v_longestList : Int32) (v_longestListArrived : Int32) (v_mostSteps : Int32) (v_dearer : Int32) (r_steps : Int32) (r_cost : Int32) (r_cause : Int32) (r_place : Int32) (r_computed : Int32) (r_list : Int32) (r_listed : Int32) (r_visited : (Nat → Int32)) (r_metLow : (Nat → Int32)) (r_metHigh : (Nat → Int32)) (r : Int32) (z_y_far : (Nat → Int32)) (z_y_usable : Int32) (z_v_joined : Int32) (z_v_arrived : Int32) (z_v_lostInVain : Int32) (z_v_costs : Int32) (z_v_trueLengths : Int32) (z_v_longestList : Int32) (z_v_longestListArrived : Int32) (z_v_mostSteps : Int32) (z_v_dearer : Int32) (z_r_steps : Int32) (z_r_cost : Int32) (z_r_cause : Int32) (z_r_place : Int32) (z_r_computed : Int32) (z_r_list : Int32) (z_r_listed : Int32) (z_r_visited : (Nat → Int32)) (z_r_metLow : (Nat → Int32)) (z_r_metHigh : (Nat → Int32)) (h : f_X5_enoughRoom n_nodes n_links n_alive n_inMap n_low n_high n_length y_far y_usable v_joined v_arrived v_lostInVain v_costs v_trueLengths v_longestList v_longestListArrived v_mostSteps v_dearer r_steps r_cost r_cause r_place r_computed r_list r_listed r_visited r_metLow r_metHigh = some (r, z_y_far, z_y_usable, z_v_joined, z_v_arrived, z_v_lostInVain, z_v_costs, z_v_trueLengths, z_v_longestList, z_v_longestListArrived, z_v_mostSteps, z_v_dearer, z_r_steps, z_r_cost, z_r_cause, z_r_place, z_r_computed, z_r_list, z_r_listed, z_r_visited, z_r_metLow, z_r_metHigh)) : CtI l D cI cZ cN aK aV yX5_enoughRoom (k_W yX5_enoughRoom cX5_enoughRoom 1 (some .int)) { frames := 6, cells := 0, slots := 0, locals := 147 } [.ref qx] [(qy, .inr (4, [.ref qn, .ref qy_far, .int y_usable])), (qy_far, .inl (cI, 9, .inl y_far)), (qv, .inr (2, [.ref qn, .ref qy, .ref qr, .int v_joined, .int v_arrived, .int v_lostInVain, .int v_costs, .int v_trueLengths, .int v_longestList, .int v_longestListArrived, .int v_mostSteps, .int v_dearer])), (qr, .inr (0, [.ref qn, .ref qy, .int r_steps, .int r_cost, .int r_cause, .int r_place, .int r_computed, .int r_list, .int r_listed, .ref qr_visited, .ref qr_metLow, .ref qr_metHigh])), (qr_visited, .inl (cI, 41, .inl r_visited)), (qr_metLow, .inl (cI, 18, .inl r_metLow)), (qr_metHigh, .inl (cI, 18, .inl r_metHigh)), (qx, .inr (5, [.ref qn, .ref qd, .ref qx_history, .int x_undoable, .ref qx_images, .ref qx_kept, .ref qy, .ref qt, .int x_letterSent, .int x_letterFits, .ref qv, .ref qz])), (qn, .inr (1, [.int n_nodes, .int n_links, .int n_room, .int n_alive, .int n_inMap, .ref qn_low, .ref qn_high, .ref qn_length])), (qn_low, .inl (cI, 18, .inl n_low)), (qn_high, .inl (cI, 18, .inl n_high)), (qn_length, .inl (cI, 18, .inl n_length))] r [(qy, .inr (4, [.ref qn, .ref qy_far, .int z_y_usable])), (qy_far, .inl (cI, 9, .inl z_y_far)), (qv, .inr (2, [.ref qn, .ref qy, .ref qr, .int z_v_joined, .int z_v_arrived, .int z_v_lostInVain, .int z_v_costs, .int z_v_trueLengths, .int z_v_longestList, .int z_v_longestListArrived, .int z_v_mostSteps, .int z_v_dearer])), (qr, .inr (0, [.ref qn, .ref qy, .int z_r_steps, .int z_r_cost, .int z_r_cause, .int z_r_place, .int z_r_computed, .int z_r_list, .int z_r_listed, .ref qr_visited, .ref qr_metLow, .ref qr_metHigh])), (qr_visited, .inl (cI, 41, .inl z_r_visited)), (qr_metLow, .inl (cI, 18, .inl z_r_metLow)), (qr_metHigh, .inl (cI, 18, .inl z_r_metHigh)), (qx, .inr (5, [.ref qn, .ref qd, .ref qx_history, .int x_undoable, .ref qx_images, .ref qx_kept, .ref qy, .ref qt, .int x_letterSent, .int x_letterFits, .ref qv, .ref qz])), (qn, .inr (1, [.int n_nodes, .int n_links, .int n_room, .int n_alive, .int n_inMap, .ref qn_low, .ref qn_high, .ref qn_length])), (qn_low, .inl (cI, 18, .inl n_low)), (qn_high, .inl (cI, 18, .inl n_high)), (qn_length, .inl (cI, 18, .inl n_length))] := by
  refine k_startI (by decide) (Nat.le_of_ble_eq_true rfl) ?_
  intro p e s m below meth c A ls hx hb hr hml hown hts hlocks hT hZ hA hP hD hS hl
  have hK := hT.1
  have hu : ∀ w ∈ k_U, w.before ([.ref qx] : List Value).toArray s = true := fun w h => hts w (List.mem_cons_of_mem _ h)
  have hown : s.vm.findClass RX5 = some m.cls := hown
  have hl : lv_has ls 1 [(0, .ref qx)] := hl
  unfold f_X5_enoughRoom at h
  refine lv_aload_n hx hb dX5_enoughRoom_0 rfl (lv_at hl 0 rfl) ?_
  refine va_get (D := D) (ci := 5) (v := .ref qv) (C := RX5) (T := TX5) (N := 12) hx hb hu k_iX5 hown hK hP 7 rfl rfl 10 (by decide) (hu _ u_293) (fun _ h9 => h9) rfl dX5_enoughRoom_1 ?_
  refine lv_iconst (v := (0 : Int32)) hx hb dX5_enoughRoom_4 (by decide) ?_
  refine lv_bipush (v := (18 : Int32)) hx hb dX5_enoughRoom_5 (by decide) ?_
  obtain ⟨⟨o_1, o_2, o_3, o_4, o_5, o_6, o_7, o_8, o_9, o_10, o_11, o_12, o_13, o_14, o_15, o_16, o_17, o_18, o_19, o_20, o_21⟩, hc_22, h⟩ := ob_bind h
  dsimp only at h
  refine k_callVV (qb := 0) [2, 3, 4, 5, 6, 0, 1, 8, 9, 10, 11] [0, 1, 2, 3, 4, 5, 6] [2, 3, 4, 5, 6, 0, 1] [(qv, .inr (2, [.ref qn, .ref qy, .ref qr, .int o_1, .int o_2, .int o_3, .int o_4, .int o_5, .int o_6, .int o_7, .int o_8, .int o_9])), (qr, .inr (0, [.ref qn, .ref qy, .int o_10, .int o_11, .int o_12, .int o_13, .int o_14, .int o_15, .int o_16, .ref qr_visited, .ref qr_metLow, .ref qr_metHigh])), (qr_visited, .inl (cI, 41, .inl o_17)), (qr_metLow, .inl (cI, 18, .inl o_18)), (qr_metHigh, .inl (cI, 18, .inl o_19)), (qy, .inr (4, [.ref qn, .ref qy_far, .int o_21])), (qy_far, .inl (cI, 9, .inl o_20))] (As := [.int (0 : Int32), .int (18 : Int32)]) (rest := []) ⟨hx, hb, hml, hown, hts⟩ hT hZ hA hP hD hS (c_X2_take l D cI cZ cN aK aV qv qr qr_visited qr_metLow qr_metHigh qy qy_far qn qn_low qn_high qn_length v_joined v_arrived v_lostInVain v_costs v_trueLengths v_longestList v_longestListArrived v_mostSteps v_dearer r_steps r_cost r_cause r_place r_computed r_list r_listed r_visited r_metLow r_metHigh y_far y_usable n_nodes n_links n_room n_alive n_inMap n_low n_high n_length (0 : Int32) (18 : Int32) o_1 o_2 o_3 o_4 o_5 o_6 o_7 o_8 o_9 o_10 o_11 o_12 o_13 o_14 o_15 o_16 o_17 o_18 o_19 o_20 o_21 hc_22) ⟨callB_of 2 hts (k_good u_555) rfl rfl rfl (hu _ u_49) (hu _ u_552) (by decide +kernel) ⟨Nat.le_of_ble_eq_true rfl, Nat.le_of_ble_eq_true rfl⟩, hu _ u_553, hu _ u_554⟩ rfl rfl rfl (by decide) (by decide) (by decide) rfl rfl rfl rfl hl.1 rfl (Nat.le_of_ble_eq_true rfl) dX5_enoughRoom_7 (fun H locs hP hD hS => ?_)
  have hP : va_P D vwCl [(qy, .inr (4, [.ref qn, .ref qy_far, .int o_21])), (qy_far, .inl (cI, 9, .inl o_20)), (qv, .inr (2, [.ref qn, .ref qy, .ref qr, .int o_1, .int o_2, .int o_3, .int o_4, .int o_5, .int o_6, .int o_7, .int o_8, .int o_9])), (qr, .inr (0, [.ref qn, .ref qy, .int o_10, .int o_11, .int o_12, .int o_13, .int o_14, .int o_15, .int o_16, .ref qr_visited, .ref qr_metLow, .ref qr_metHigh])), (qr_visited, .inl (cI, 41, .inl o_17)), (qr_metLow, .inl (cI, 18, .inl o_18)), (qr_metHigh, .inl (cI, 18, .inl o_19)), (qx, .inr (5, [.ref qn, .ref qd, .ref qx_history, .int x_undoable, .ref qx_images, .ref qx_kept, .ref qy, .ref qt, .int x_letterSent, .int x_letterFits, .ref qv, .ref qz])), (qn, .inr (1, [.int n_nodes, .int n_links, .int n_room, .int n_alive, .int n_inMap, .ref qn_low, .ref qn_high, .ref qn_length])), (qn_low, .inl (cI, 18, .inl n_low)), (qn_high, .inl (cI, 18, .inl n_high)), (qn_length, .inl (cI, 18, .inl n_length))] H := hP
  have hD : va_D A [(qy, .inr (4, [.ref qn, .ref qy_far, .int o_21])), (qy_far, .inl (cI, 9, .inl o_20)), (qv, .inr (2, [.ref qn, .ref qy, .ref qr, .int o_1, .int o_2, .int o_3, .int o_4, .int o_5, .int o_6, .int o_7, .int o_8, .int o_9])), (qr, .inr (0, [.ref qn, .ref qy, .int o_10, .int o_11, .int o_12, .int o_13, .int o_14, .int o_15, .int o_16, .ref qr_visited, .ref qr_metLow, .ref qr_metHigh])), (qr_visited, .inl (cI, 41, .inl o_17)), (qr_metLow, .inl (cI, 18, .inl o_18)), (qr_metHigh, .inl (cI, 18, .inl o_19)), (qx, .inr (5, [.ref qn, .ref qd, .ref qx_history, .int x_undoable, .ref qx_images, .ref qx_kept, .ref qy, .ref qt, .int x_letterSent, .int x_letterFits, .ref qv, .ref qz])), (qn, .inr (1, [.int n_nodes, .int n_links, .int n_room, .int n_alive, .int n_inMap, .ref qn_low, .ref qn_high, .ref qn_length])), (qn_low, .inl (cI, 18, .inl n_low)), (qn_high, .inl (cI, 18, .inl n_high)), (qn_length, .inl (cI, 18, .inl n_length))] := hD
  refine lv_aload_n hx hb dX5_enoughRoom_10 rfl (lv_at hl 0 rfl) ?_
  refine va_get (D := D) (ci := 5) (v := .ref qv) (C := RX5) (T := TX5) (N := 12) hx hb hu k_iX5 hown hK hP 7 rfl rfl 10 (by decide) (hu _ u_293) (fun _ h9 => h9) rfl dX5_enoughRoom_11 ?_
  refine va_get (D := D) (ci := 2) (v := .int o_7) (C := RX2) (T := TX2) (N := 12) hx hb hu k_iX2 hown hK hP 2 rfl rfl 9 (by decide) (hu _ u_217) (fun _ h9 => h9) rfl dX5_enoughRoom_14 ?_
  have hq := Option.some.inj h
  clear h
  obtain ⟨e0, hq0⟩ := Prod.mk.inj hq
  clear hq
  obtain ⟨e1, hq1⟩ := Prod.mk.inj hq0
  clear hq0
  obtain ⟨e2, hq2⟩ := Prod.mk.inj hq1
  clear hq1
  obtain ⟨e3, hq3⟩ := Prod.mk.inj hq2
  clear hq2
  obtain ⟨e4, hq4⟩ := Prod.mk.inj hq3
  clear hq3
  obtain ⟨e5, hq5⟩ := Prod.mk.inj hq4
  clear hq4
  obtain ⟨e6, hq6⟩ := Prod.mk.inj hq5
  clear hq5
  obtain ⟨e7, hq7⟩ := Prod.mk.inj hq6
  clear hq6
  obtain ⟨e8, hq8⟩ := Prod.mk.inj hq7
  clear hq7
  obtain ⟨e9, hq9⟩ := Prod.mk.inj hq8
  clear hq8
  obtain ⟨e10, hq10⟩ := Prod.mk.inj hq9
  clear hq9
  obtain ⟨e11, hq11⟩ := Prod.mk.inj hq10
  clear hq10
  obtain ⟨e12, hq12⟩ := Prod.mk.inj hq11
  clear hq11
  obtain ⟨e13, hq13⟩ := Prod.mk.inj hq12
  clear hq12
  obtain ⟨e14, hq14⟩ := Prod.mk.inj hq13
  clear hq13
  obtain ⟨e15, hq15⟩ := Prod.mk.inj hq14
  clear hq14
  obtain ⟨e16, hq16⟩ := Prod.mk.inj hq15
  clear hq15
  obtain ⟨e17, hq17⟩ := Prod.mk.inj hq16
  clear hq16
  obtain ⟨e18, hq18⟩ := Prod.mk.inj hq17
  clear hq17
  obtain ⟨e19, hq19⟩ := Prod.mk.inj hq18
  clear hq18
  obtain ⟨e20, hq20⟩ := Prod.mk.inj hq19
  clear hq19
  subst e0
  subst e1
  subst e2
  subst e3
  subst e4
  subst e5
  subst e6
  subst e7
  subst e8
  subst e9
  subst e10
  subst e11
  subst e12
  subst e13
  subst e14
  subst e15
  subst e16
  subst e17
  subst e18
  subst e19
  subst e20
  subst hq20
  exact k_retI hx hb hr hlocks hP hD hS dX5_enoughRoom_17
