def f_X5_begin (p1 : Int32) (x_pi : (Nat → Nat)) (x_undoable : Int32) (x_letterFits : Int32) (n_nodes : Int32) (n_links : Int32) (n_room : Int32) (n_alive : Int32) (n_inMap : Int32) (n_low : (Nat → Int32)) (n_high : (Nat → Int32)) (n_length : (Nat → Int32)) (h_C : (Nat → NV)) : Option (Int32 × (Nat → Nat) × Int32 × Int32 × Int32 × Int32 × Int32 × Int32 × (Nat → NV)) :=
  if p1 < (2 : Int32) then
    some ((-1 : Int32), x_pi, x_undoable, x_letterFits, n_nodes, n_links, n_alive, n_inMap, h_C)
  else
    if p1 ≤ (9 : Int32) then
      (f_X5_recordState x_pi x_undoable n_nodes n_links n_room n_alive n_inMap n_low n_high n_length h_C).bind fun ⟨o_3, o_4, o_5⟩ =>
      some (n_nodes, o_3, o_4, (0 : Int32), ((f_X1_clear p1 n_nodes n_links n_alive n_inMap).1), ((f_X1_clear p1 n_nodes n_links n_alive n_inMap).2.1), ((f_X1_clear p1 n_nodes n_links n_alive n_inMap).2.2.1), ((f_X1_clear p1 n_nodes n_links n_alive n_inMap).2.2.2), o_5)
    else
      some ((-1 : Int32), x_pi, x_undoable, x_letterFits, n_nodes, n_links, n_alive, n_inMap, h_C)
set_option maxHeartbeats 4000000 in
set_option maxRecDepth 100000 in
theorem c_X5_begin (l : Launch) (D : va_G) (cI cZ cN : ClassId) (aK aV : Nat → Nat)  (qx : Nat) (qx_history : Nat) (qx_images : Nat) (qx_kept : Nat) (qn : Nat) (qn_low : Nat) (qn_high : Nat) (qn_length : Nat) (qd : Nat) (qy : Nat) (qt : Nat) (qv : Nat) (qz : Nat) (qh : Nat → Nat) (qhl : Nat → Nat) (qhg : Nat → Nat) (qht : Nat → Nat) (x_pi : (Nat → Nat)) (x_undoable : Int32) (x_letterSent : Int32) (x_letterFits : Int32) (n_nodes : Int32) (n_links : Int32) (n_room : Int32) (n_alive : Int32) (n_inMap : Int32) (n_low : (Nat → Int32)) (n_high : (Nat → Int32)) (n_length : (Nat → Int32)) (h_C : (Nat → NV)) (p1 : Int32) (r : Int32) (z_x_pi : (Nat → Nat)) (z_x_undoable : Int32) (z_x_letterFits : Int32) (z_n_nodes : Int32) (z_n_links : Int32) (z_n_alive : Int32) (z_n_inMap : Int32) (z_h_C : (Nat → NV)) (h : f_X5_begin p1 x_pi x_undoable x_letterFits n_nodes n_links n_room n_alive n_inMap n_low n_high n_length h_C = some (r, z_x_pi, z_x_undoable, z_x_letterFits, z_n_nodes, z_n_links, z_n_alive, z_n_inMap, z_h_C)) : CtI l D cI cZ cN aK aV yX5_begin (k_W yX5_begin cX5_begin 3 (some .int)) { frames := 2, cells := 0, slots := 0, locals := 42 } [.ref qx, .int p1] ([(qx, .inr (5, [.ref qn, .ref qd, .ref qx_history, .int x_undoable, .ref qx_images, .ref qx_kept, .ref qy, .ref qt, .int x_letterSent, .int x_letterFits, .ref qv, .ref qz])), (qx_history, .inl (cN, 8, .inr (.inr (.inr (.inr (fun j => some (qh (x_pi j)))))))), (qn, .inr (1, [.int n_nodes, .int n_links, .int n_room, .int n_alive, .int n_inMap, .ref qn_low, .ref qn_high, .ref qn_length])), (qn_low, .inl (cI, 18, .inl n_low)), (qn_high, .inl (cI, 18, .inl n_high)), (qn_length, .inl (cI, 18, .inl n_length))] ++ k_hc cI qh qhl qhg qht h_C) r ([(qx, .inr (5, [.ref qn, .ref qd, .ref qx_history, .int z_x_undoable, .ref qx_images, .ref qx_kept, .ref qy, .ref qt, .int x_letterSent, .int z_x_letterFits, .ref qv, .ref qz])), (qx_history, .inl (cN, 8, .inr (.inr (.inr (.inr (fun j => some (qh (z_x_pi j)))))))), (qn, .inr (1, [.int z_n_nodes, .int z_n_links, .int n_room, .int z_n_alive, .int z_n_inMap, .ref qn_low, .ref qn_high, .ref qn_length])), (qn_low, .inl (cI, 18, .inl n_low)), (qn_high, .inl (cI, 18, .inl n_high)), (qn_length, .inl (cI, 18, .inl n_length))] ++ k_hc cI qh qhl qhg qht z_h_C) := by
  refine k_startI (by decide) (Nat.le_of_ble_eq_true rfl) ?_
  intro p e s m below meth c A ls hx hb hr hml hown hts hlocks hT hZ hA hP hD hS hl
  have hK := hT.1
  have hu : ∀ w ∈ k_U, w.before ([.ref qx, .int p1] : List Value).toArray s = true := fun w h => hts w (List.mem_cons_of_mem _ h)
  have hown : s.vm.findClass RX5 = some m.cls := hown
  have hl : lv_has ls 3 [(0, .ref qx), (1, .int p1)] := hl
  unfold f_X5_begin at h
  refine lv_iload_n hx hb dX5_begin_0 rfl (lv_at hl 1 rfl) ?_
  refine lv_iconst (v := (2 : Int32)) hx hb dX5_begin_1 (by decide) ?_
  refine lv_icmp_lt (tgt := 11) hx hb dX5_begin_2 (by decide) (fun cc_1 => ?_) (fun cc_1 => ?_)
  · have h := (if_pos cc_1).symm.trans h
    refine lv_iconst (v := (-1 : Int32)) hx hb dX5_begin_11 (by decide) ?_
    have hq := Option.some.inj h
    clear h
    obtain ⟨e0, hq0⟩ := Prod.mk.inj hq
    clear hq
    obtain ⟨e1, hq1⟩ := Prod.mk.inj hq0
    clear hq0
    obtain ⟨e2, hq2⟩ := Prod.mk.inj hq1
    clear hq1
    obtain ⟨e3, hq3⟩ := Prod.mk.inj hq2
    clear hq2
    obtain ⟨e4, hq4⟩ := Prod.mk.inj hq3
    clear hq3
    obtain ⟨e5, hq5⟩ := Prod.mk.inj hq4
    clear hq4
    obtain ⟨e6, hq6⟩ := Prod.mk.inj hq5
    clear hq5
    obtain ⟨e7, hq7⟩ := Prod.mk.inj hq6
    clear hq6
    subst e0
    subst e1
    subst e2
    subst e3
    subst e4
    subst e5
    subst e6
    subst e7
    subst hq7
    exact k_retI hx hb hr hlocks hP hD hS dX5_begin_12
  · have h := (if_neg cc_1).symm.trans h
    refine lv_iload_n hx hb dX5_begin_5 rfl (lv_at hl 1 rfl) ?_
    refine lv_bipush (v := (9 : Int32)) hx hb dX5_begin_6 (by decide) ?_
    refine lv_icmp_le (tgt := 13) hx hb dX5_begin_8 (by decide) (fun cc_2 => ?_) (fun cc_2 => ?_)
    · have h := (if_pos cc_2).symm.trans h
      refine lv_aload_n hx hb dX5_begin_13 rfl (lv_at hl 0 rfl) ?_
      refine va_get (D := D) (ci := 5) (v := .ref qn) (C := RX5) (T := TX5) (N := 12) hx hb hu k_iX5 hown hK hP 0 rfl rfl 0 (by decide) (hu _ u_283) (fun _ h9 => h9) rfl dX5_begin_14 ?_
      refine va_get (D := D) (ci := 1) (v := .int n_nodes) (C := RX1) (T := TX1) (N := 8) hx hb hu k_iX1 hown hK hP 2 rfl rfl 0 (by decide) (hu _ u_75) (fun _ h9 => h9) rfl dX5_begin_17 ?_
      refine lv_istore_n (lv' := [(2, .int n_nodes), (0, .ref qx), (1, .int p1)]) hx hb dX5_begin_20 rfl hl (by decide) rfl (fun ls hl => ?_)
      refine lv_aload_n hx hb dX5_begin_21 rfl (lv_at hl 1 rfl) ?_
      obtain ⟨⟨o_3, o_4, o_5⟩, hc_6, h⟩ := ob_bind h
      dsimp only at h
      refine k_callVVs (qb := 0) [] (As := []) (rest := []) ⟨hx, hb, hml, hown, hts⟩ hT hZ hA hP hD hS (c_X5_recordState l D cI cZ cN aK aV qx qx_history qx_images qx_kept qn qn_low qn_high qn_length qd qy qt qv qz qh qhl qhg qht x_pi x_undoable x_letterSent x_letterFits n_nodes n_links n_room n_alive n_inMap n_low n_high n_length h_C o_3 o_4 o_5 hc_6) ⟨callB_of 0 hts (k_good u_327) rfl rfl rfl (hu _ u_45) (hu _ u_324) (by decide +kernel) ⟨Nat.le_of_ble_eq_true rfl, Nat.le_of_ble_eq_true rfl⟩, hu _ u_326, hu _ u_0⟩ rfl rfl rfl rfl rfl hl.1 rfl (Nat.le_of_ble_eq_true rfl) dX5_begin_22 (fun H locs hP hD hS => ?_)
      have hP : va_P D vwCl ([(qx, .inr (5, [.ref qn, .ref qd, .ref qx_history, .int o_4, .ref qx_images, .ref qx_kept, .ref qy, .ref qt, .int x_letterSent, .int x_letterFits, .ref qv, .ref qz])), (qx_history, .inl (cN, 8, .inr (.inr (.inr (.inr (fun j => some (qh (o_3 j)))))))), (qn, .inr (1, [.int n_nodes, .int n_links, .int n_room, .int n_alive, .int n_inMap, .ref qn_low, .ref qn_high, .ref qn_length])), (qn_low, .inl (cI, 18, .inl n_low)), (qn_high, .inl (cI, 18, .inl n_high)), (qn_length, .inl (cI, 18, .inl n_length))] ++ k_hc cI qh qhl qhg qht o_5) H := hP
      have hD : va_D A ([(qx, .inr (5, [.ref qn, .ref qd, .ref qx_history, .int o_4, .ref qx_images, .ref qx_kept, .ref qy, .ref qt, .int x_letterSent, .int x_letterFits, .ref qv, .ref qz])), (qx_history, .inl (cN, 8, .inr (.inr (.inr (.inr (fun j => some (qh (o_3 j)))))))), (qn, .inr (1, [.int n_nodes, .int n_links, .int n_room, .int n_alive, .int n_inMap, .ref qn_low, .ref qn_high, .ref qn_length])), (qn_low, .inl (cI, 18, .inl n_low)), (qn_high, .inl (cI, 18, .inl n_high)), (qn_length, .inl (cI, 18, .inl n_length))] ++ k_hc cI qh qhl qhg qht o_5) := hD
      refine lv_aload_n hx hb dX5_begin_25 rfl (lv_at hl 1 rfl) ?_
      refine lv_iconst (v := (0 : Int32)) hx hb dX5_begin_26 (by decide) ?_
      refine va_put (D := D) (ci := 5) (v := .int (0 : Int32)) (ty := .boolean) (C := RX5) (T := TX5) (N := 12) hx hb hu k_iX5 tyX5 tyX5_ok nmX5 hown hK hP hD hS 0 rfl rfl 9 (by decide) (hu _ u_292) (fun _ h9 => h9) rfl (by decide +kernel) rfl rfl (Nat.le_of_ble_eq_true rfl) dX5_begin_27 (fun H locs hP hD hS => ?_)
      have hP : va_P D vwCl ([(qx, .inr (5, [.ref qn, .ref qd, .ref qx_history, .int o_4, .ref qx_images, .ref qx_kept, .ref qy, .ref qt, .int x_letterSent, .int (0 : Int32), .ref qv, .ref qz])), (qx_history, .inl (cN, 8, .inr (.inr (.inr (.inr (fun j => some (qh (o_3 j)))))))), (qn, .inr (1, [.int n_nodes, .int n_links, .int n_room, .int n_alive, .int n_inMap, .ref qn_low, .ref qn_high, .ref qn_length])), (qn_low, .inl (cI, 18, .inl n_low)), (qn_high, .inl (cI, 18, .inl n_high)), (qn_length, .inl (cI, 18, .inl n_length))] ++ k_hc cI qh qhl qhg qht o_5) H := hP
      have hD : va_D A ([(qx, .inr (5, [.ref qn, .ref qd, .ref qx_history, .int o_4, .ref qx_images, .ref qx_kept, .ref qy, .ref qt, .int x_letterSent, .int (0 : Int32), .ref qv, .ref qz])), (qx_history, .inl (cN, 8, .inr (.inr (.inr (.inr (fun j => some (qh (o_3 j)))))))), (qn, .inr (1, [.int n_nodes, .int n_links, .int n_room, .int n_alive, .int n_inMap, .ref qn_low, .ref qn_high, .ref qn_length])), (qn_low, .inl (cI, 18, .inl n_low)), (qn_high, .inl (cI, 18, .inl n_high)), (qn_length, .inl (cI, 18, .inl n_length))] ++ k_hc cI qh qhl qhg qht o_5) := hD
      refine lv_aload_n hx hb dX5_begin_30 rfl (lv_at hl 1 rfl) ?_
      refine va_get (D := D) (ci := 5) (v := .ref qn) (C := RX5) (T := TX5) (N := 12) hx hb hu k_iX5 hown hK hP 0 rfl rfl 0 (by decide) (hu _ u_283) (fun _ h9 => h9) rfl dX5_begin_31 ?_
      refine lv_iload_n hx hb dX5_begin_34 rfl (lv_at hl 2 rfl) ?_
      refine k_callVV (qb := 0) [2] [0] [2] [(qn, .inr (1, [.int ((f_X1_clear p1 n_nodes n_links n_alive n_inMap).1), .int ((f_X1_clear p1 n_nodes n_links n_alive n_inMap).2.1), .int n_room, .int ((f_X1_clear p1 n_nodes n_links n_alive n_inMap).2.2.1), .int ((f_X1_clear p1 n_nodes n_links n_alive n_inMap).2.2.2), .ref qn_low, .ref qn_high, .ref qn_length]))] (As := [.int p1]) (rest := []) ⟨hx, hb, hml, hown, hts⟩ hT hZ hA hP hD hS (c_X1_clear l D cI cZ cN aK aV qn qn_low qn_high qn_length n_nodes n_links n_room n_alive n_inMap p1 _ _ _ _ rfl) ⟨callB_of 1 hts (k_good u_339) rfl rfl rfl (hu _ u_46) (hu _ u_336) (by decide +kernel) ⟨Nat.le_of_ble_eq_true rfl, Nat.le_of_ble_eq_true rfl⟩, hu _ u_337, hu _ u_338⟩ rfl rfl rfl (by decide) (by decide) (by decide) rfl rfl rfl rfl hl.1 rfl (Nat.le_of_ble_eq_true rfl) dX5_begin_35 (fun H locs hP hD hS => ?_)
      have hP : va_P D vwCl ([(qx, .inr (5, [.ref qn, .ref qd, .ref qx_history, .int o_4, .ref qx_images, .ref qx_kept, .ref qy, .ref qt, .int x_letterSent, .int (0 : Int32), .ref qv, .ref qz])), (qx_history, .inl (cN, 8, .inr (.inr (.inr (.inr (fun j => some (qh (o_3 j)))))))), (qn, .inr (1, [.int ((f_X1_clear p1 n_nodes n_links n_alive n_inMap).1), .int ((f_X1_clear p1 n_nodes n_links n_alive n_inMap).2.1), .int n_room, .int ((f_X1_clear p1 n_nodes n_links n_alive n_inMap).2.2.1), .int ((f_X1_clear p1 n_nodes n_links n_alive n_inMap).2.2.2), .ref qn_low, .ref qn_high, .ref qn_length])), (qn_low, .inl (cI, 18, .inl n_low)), (qn_high, .inl (cI, 18, .inl n_high)), (qn_length, .inl (cI, 18, .inl n_length))] ++ k_hc cI qh qhl qhg qht o_5) H := hP
      have hD : va_D A ([(qx, .inr (5, [.ref qn, .ref qd, .ref qx_history, .int o_4, .ref qx_images, .ref qx_kept, .ref qy, .ref qt, .int x_letterSent, .int (0 : Int32), .ref qv, .ref qz])), (qx_history, .inl (cN, 8, .inr (.inr (.inr (.inr (fun j => some (qh (o_3 j)))))))), (qn, .inr (1, [.int ((f_X1_clear p1 n_nodes n_links n_alive n_inMap).1), .int ((f_X1_clear p1 n_nodes n_links n_alive n_inMap).2.1), .int n_room, .int ((f_X1_clear p1 n_nodes n_links n_alive n_inMap).2.2.1), .int ((f_X1_clear p1 n_nodes n_links n_alive n_inMap).2.2.2), .ref qn_low, .ref qn_high, .ref qn_length])), (qn_low, .inl (cI, 18, .inl n_low)), (qn_high, .inl (cI, 18, .inl n_high)), (qn_length, .inl (cI, 18, .inl n_length))] ++ k_hc cI qh qhl qhg qht o_5) := hD
      refine lv_iload_n hx hb dX5_begin_38 rfl (lv_at hl 0 rfl) ?_
      have hq := Option.some.inj h
      clear h
      obtain ⟨e0, hq0⟩ := Prod.mk.inj hq
      clear hq
      obtain ⟨e1, hq1⟩ := Prod.mk.inj hq0
      clear hq0
      obtain ⟨e2, hq2⟩ := Prod.mk.inj hq1
      clear hq1
      obtain ⟨e3, hq3⟩ := Prod.mk.inj hq2
      clear hq2
      obtain ⟨e4, hq4⟩ := Prod.mk.inj hq3
      clear hq3
      obtain ⟨e5, hq5⟩ := Prod.mk.inj hq4
      clear hq4
      obtain ⟨e6, hq6⟩ := Prod.mk.inj hq5
      clear hq5
      obtain ⟨e7, hq7⟩ := Prod.mk.inj hq6
      clear hq6
      subst e0
      subst e1
      subst e2
      subst e3
      subst e4
      subst e5
      subst e6
      subst e7
      subst hq7
      exact k_retI hx hb hr hlocks hP hD hS dX5_begin_39
    · have h := (if_neg cc_2).symm.trans h
      refine lv_iconst (v := (-1 : Int32)) hx hb dX5_begin_11 (by decide) ?_
      have hq := Option.some.inj h
      clear h
      obtain ⟨e0, hq0⟩ := Prod.mk.inj hq
      clear hq
      obtain ⟨e1, hq1⟩ := Prod.mk.inj hq0
      clear hq0
      obtain ⟨e2, hq2⟩ := Prod.mk.inj hq1
      clear hq1
      obtain ⟨e3, hq3⟩ := Prod.mk.inj hq2
      clear hq2
      obtain ⟨e4, hq4⟩ := Prod.mk.inj hq3
      clear hq3
      obtain ⟨e5, hq5⟩ := Prod.mk.inj hq4
      clear hq4
      obtain ⟨e6, hq6⟩ := Prod.mk.inj hq5
      clear hq5
      obtain ⟨e7, hq7⟩ := Prod.mk.inj hq6
      clear hq6
      subst e0
      subst e1
      subst e2
      subst e3
      subst e4
      subst e5
      subst e6
      subst e7
      subst hq7
      exact k_retI hx hb hr hlocks hP hD hS dX5_begin_12
def f_X5_add (p1 : Int32) (p2 : Int32) (p3 : Int32) (x_pi : (Nat → Nat)) (x_undoable : Int32) (x_letterFits : Int32) (n_nodes : Int32) (n_links : Int32) (n_room : Int32) (n_alive : Int32) (n_inMap : Int32) (n_low : (Nat → Int32)) (n_high : (Nat → Int32)) (n_length : (Nat → Int32)) (h_C : (Nat → NV)) : Option (Int32 × (Nat → Nat) × Int32 × Int32 × Int32 × Int32 × Int32 × (Nat → Int32) × (Nat → Int32) × (Nat → Int32) × (Nat → NV)) :=
  (f_X1_refusalOfLink p1 p2 p3 n_nodes n_links n_low n_high).bind fun r_1 =>
  if r_1 = (0 : Int32) then
    (f_X5_recordState x_pi x_undoable n_nodes n_links n_room n_alive n_inMap n_low n_high n_length h_C).bind fun ⟨o_4, o_5, o_6⟩ =>
    (f_X1_appendLink p1 p2 p3 n_links n_alive n_inMap n_low n_high n_length).bind fun ⟨o_8, o_9, o_10, o_11, o_12, o_13⟩ =>
    some ((o_8 - (1 : Int32)), o_4, o_5, (0 : Int32), o_8, o_9, o_10, o_11, o_12, o_13, o_6)
  else
    some (r_1, x_pi, x_undoable, x_letterFits, n_links, n_alive, n_inMap, n_low, n_high, n_length, h_C)
set_option maxHeartbeats 4000000 in
set_option maxRecDepth 100000 in
theorem c_X5_add (l : Launch) (D : va_G) (cI cZ cN : ClassId) (aK aV : Nat → Nat)  (qx : Nat) (qx_history : Nat) (qx_images : Nat) (qx_kept : Nat) (qn : Nat) (qn_low : Nat) (qn_high : Nat) (qn_length : Nat) (qd : Nat) (qy : Nat) (qt : Nat) (qv : Nat) (qz : Nat) (qh : Nat → Nat) (qhl : Nat → Nat) (qhg : Nat → Nat) (qht : Nat → Nat) (x_pi : (Nat → Nat)) (x_undoable : Int32) (x_letterSent : Int32) (x_letterFits : Int32) (n_nodes : Int32) (n_links : Int32) (n_room : Int32) (n_alive : Int32) (n_inMap : Int32) (n_low : (Nat → Int32)) (n_high : (Nat → Int32)) (n_length : (Nat → Int32)) (h_C : (Nat → NV)) (p1 p2 p3 : Int32) (r : Int32) (z_x_pi : (Nat → Nat)) (z_x_undoable : Int32) (z_x_letterFits : Int32) (z_n_links : Int32) (z_n_alive : Int32) (z_n_inMap : Int32) (z_n_low : (Nat → Int32)) (z_n_high : (Nat → Int32)) (z_n_length : (Nat → Int32)) (z_h_C : (Nat → NV)) (h : f_X5_add p1 p2 p3 x_pi x_undoable x_letterFits n_nodes n_links n_room n_alive n_inMap n_low n_high n_length h_C = some (r, z_x_pi, z_x_undoable, z_x_letterFits, z_n_links, z_n_alive, z_n_inMap, z_n_low, z_n_high, z_n_length, z_h_C)) : CtI l D cI cZ cN aK aV yX5_add (k_W yX5_add cX5_add 5 (some .int)) { frames := 3, cells := 0, slots := 0, locals := 60 } [.ref qx, .int p1, .int p2, .int p3] ([(qx, .inr (5, [.ref qn, .ref qd, .ref qx_history, .int x_undoable, .ref qx_images, .ref qx_kept, .ref qy, .ref qt, .int x_letterSent, .int x_letterFits, .ref qv, .ref qz])), (qx_history, .inl (cN, 8, .inr (.inr (.inr (.inr (fun j => some (qh (x_pi j)))))))), (qn, .inr (1, [.int n_nodes, .int n_links, .int n_room, .int n_alive, .int n_inMap, .ref qn_low, .ref qn_high, .ref qn_length])), (qn_low, .inl (cI, 18, .inl n_low)), (qn_high, .inl (cI, 18, .inl n_high)), (qn_length, .inl (cI, 18, .inl n_length))] ++ k_hc cI qh qhl qhg qht h_C) r ([(qx, .inr (5, [.ref qn, .ref qd, .ref qx_history, .int z_x_undoable, .ref qx_images, .ref qx_kept, .ref qy, .ref qt, .int x_letterSent, .int z_x_letterFits, .ref qv, .ref qz])), (qx_history, .inl (cN, 8, .inr (.inr (.inr (.inr (fun j => some (qh (z_x_pi j)))))))), (qn, .inr (1, [.int n_nodes, .int z_n_links, .int n_room, .int z_n_alive, .int z_n_inMap, .ref qn_low, .ref qn_high, .ref qn_length])), (qn_low, .inl (cI, 18, .inl z_n_low)), (qn_high, .inl (cI, 18, .inl z_n_high)), (qn_length, .inl (cI, 18, .inl z_n_length))] ++ k_hc cI qh qhl qhg qht z_h_C) := by
  refine k_startI (by decide) (Nat.le_of_ble_eq_true rfl) ?_
  intro p e s m below meth c A ls hx hb hr hml hown hts hlocks hT hZ hA hP hD hS hl
  have hK := hT.1
  have hu : ∀ w ∈ k_U, w.before ([.ref qx, .int p1, .int p2, .int p3] : List Value).toArray s = true := fun w h => hts w (List.mem_cons_of_mem _ h)
  have hown : s.vm.findClass RX5 = some m.cls := hown
  have hl : lv_has ls 5 [(0, .ref qx), (1, .int p1), (2, .int p2), (3, .int p3)] := hl
  unfold f_X5_add at h
  refine lv_aload_n hx hb dX5_add_0 rfl (lv_at hl 0 rfl) ?_
  refine va_get (D := D) (ci := 5) (v := .ref qn) (C := RX5) (T := TX5) (N := 12) hx hb hu k_iX5 hown hK hP 0 rfl rfl 0 (by decide) (hu _ u_283) (fun _ h9 => h9) rfl dX5_add_1 ?_
  refine lv_iload_n hx hb dX5_add_4 rfl (lv_at hl 1 rfl) ?_
  refine lv_iload_n hx hb dX5_add_5 rfl (lv_at hl 2 rfl) ?_
  refine lv_iload_n hx hb dX5_add_6 rfl (lv_at hl 3 rfl) ?_
  obtain ⟨r_1, hc_2, h⟩ := ob_bind h
  refine k_callVIr (qb := 0) [2, 3, 4] (As := [.int p1, .int p2, .int p3]) (rest := []) ⟨hx, hb, hml, hown, hts⟩ hT hZ hA hP hD hS (c_X1_refusalOfLink l D cI cZ cN aK aV qn qn_low qn_high qn_length n_nodes n_links n_room n_alive n_inMap n_low n_high p1 p2 p3 r_1 hc_2) ⟨callB_of 3 hts (k_good u_347) rfl rfl rfl (hu _ u_46) (hu _ u_344) (by decide +kernel) ⟨Nat.le_of_ble_eq_true rfl, Nat.le_of_ble_eq_true rfl⟩, hu _ u_345, hu _ u_346⟩ rfl rfl rfl (by decide) rfl hl.1 rfl (Nat.le_of_ble_eq_true rfl) dX5_add_7 (fun H locs hP hD hS => ?_)
  refine lv_istore (lv' := [(4, .int r_1), (0, .ref qx), (1, .int p1), (2, .int p2), (3, .int p3)]) hx hb dX5_add_10 hl (by decide) rfl (fun ls hl => ?_)
  refine lv_iload hx hb dX5_add_12 (lv_at hl 0 rfl) ?_
  refine lv_if_eq (tgt := 20) hx hb dX5_add_14 (by decide) (fun cc_3 => ?_) (fun cc_3 => ?_)
  · have h := (if_pos cc_3).symm.trans h
    refine lv_aload_n hx hb dX5_add_20 rfl (lv_at hl 1 rfl) ?_
    obtain ⟨⟨o_4, o_5, o_6⟩, hc_7, h⟩ := ob_bind h
    dsimp only at h
    refine k_callVVs (qb := 0) [] (As := []) (rest := []) ⟨hx, hb, hml, hown, hts⟩ hT hZ hA hP hD hS (c_X5_recordState l D cI cZ cN aK aV qx qx_history qx_images qx_kept qn qn_low qn_high qn_length qd qy qt qv qz qh qhl qhg qht x_pi x_undoable x_letterSent x_letterFits n_nodes n_links n_room n_alive n_inMap n_low n_high n_length h_C o_4 o_5 o_6 hc_7) ⟨callB_of 0 hts (k_good u_327) rfl rfl rfl (hu _ u_45) (hu _ u_324) (by decide +kernel) ⟨Nat.le_of_ble_eq_true rfl, Nat.le_of_ble_eq_true rfl⟩, hu _ u_326, hu _ u_0⟩ rfl rfl rfl rfl rfl hl.1 rfl (Nat.le_of_ble_eq_true rfl) dX5_add_21 (fun H locs hP hD hS => ?_)
    have hP : va_P D vwCl ([(qx, .inr (5, [.ref qn, .ref qd, .ref qx_history, .int o_5, .ref qx_images, .ref qx_kept, .ref qy, .ref qt, .int x_letterSent, .int x_letterFits, .ref qv, .ref qz])), (qx_history, .inl (cN, 8, .inr (.inr (.inr (.inr (fun j => some (qh (o_4 j)))))))), (qn, .inr (1, [.int n_nodes, .int n_links, .int n_room, .int n_alive, .int n_inMap, .ref qn_low, .ref qn_high, .ref qn_length])), (qn_low, .inl (cI, 18, .inl n_low)), (qn_high, .inl (cI, 18, .inl n_high)), (qn_length, .inl (cI, 18, .inl n_length))] ++ k_hc cI qh qhl qhg qht o_6) H := hP
    have hD : va_D A ([(qx, .inr (5, [.ref qn, .ref qd, .ref qx_history, .int o_5, .ref qx_images, .ref qx_kept, .ref qy, .ref qt, .int x_letterSent, .int x_letterFits, .ref qv, .ref qz])), (qx_history, .inl (cN, 8, .inr (.inr (.inr (.inr (fun j => some (qh (o_4 j)))))))), (qn, .inr (1, [.int n_nodes, .int n_links, .int n_room, .int n_alive, .int n_inMap, .ref qn_low, .ref qn_high, .ref qn_length])), (qn_low, .inl (cI, 18, .inl n_low)), (qn_high, .inl (cI, 18, .inl n_high)), (qn_length, .inl (cI, 18, .inl n_length))] ++ k_hc cI qh qhl qhg qht o_6) := hD
    refine lv_aload_n hx hb dX5_add_24 rfl (lv_at hl 1 rfl) ?_
    refine lv_iconst (v := (0 : Int32)) hx hb dX5_add_25 (by decide) ?_
    refine va_put (D := D) (ci := 5) (v := .int (0 : Int32)) (ty := .boolean) (C := RX5) (T := TX5) (N := 12) hx hb hu k_iX5 tyX5 tyX5_ok nmX5 hown hK hP hD hS 0 rfl rfl 9 (by decide) (hu _ u_292) (fun _ h9 => h9) rfl (by decide +kernel) rfl rfl (Nat.le_of_ble_eq_true rfl) dX5_add_26 (fun H locs hP hD hS => ?_)
    have hP : va_P D vwCl ([(qx, .inr (5, [.ref qn, .ref qd, .ref qx_history, .int o_5, .ref qx_images, .ref qx_kept, .ref qy, .ref qt, .int x_letterSent, .int (0 : Int32), .ref qv, .ref qz])), (qx_history, .inl (cN, 8, .inr (.inr (.inr (.inr (fun j => some (qh (o_4 j)))))))), (qn, .inr (1, [.int n_nodes, .int n_links, .int n_room, .int n_alive, .int n_inMap, .ref qn_low, .ref qn_high, .ref qn_length])), (qn_low, .inl (cI, 18, .inl n_low)), (qn_high, .inl (cI, 18, .inl n_high)), (qn_length, .inl (cI, 18, .inl n_length))] ++ k_hc cI qh qhl qhg qht o_6) H := hP
    have hD : va_D A ([(qx, .inr (5, [.ref qn, .ref qd, .ref qx_history, .int o_5, .ref qx_images, .ref qx_kept, .ref qy, .ref qt, .int x_letterSent, .int (0 : Int32), .ref qv, .ref qz])), (qx_history, .inl (cN, 8, .inr (.inr (.inr (.inr (fun j => some (qh (o_4 j)))))))), (qn, .inr (1, [.int n_nodes, .int n_links, .int n_room, .int n_alive, .int n_inMap, .ref qn_low, .ref qn_high, .ref qn_length])), (qn_low, .inl (cI, 18, .inl n_low)), (qn_high, .inl (cI, 18, .inl n_high)), (qn_length, .inl (cI, 18, .inl n_length))] ++ k_hc cI qh qhl qhg qht o_6) := hD
    refine lv_aload_n hx hb dX5_add_29 rfl (lv_at hl 1 rfl) ?_
    refine va_get (D := D) (ci := 5) (v := .ref qn) (C := RX5) (T := TX5) (N := 12) hx hb hu k_iX5 hown hK hP 0 rfl rfl 0 (by decide) (hu _ u_283) (fun _ h9 => h9) rfl dX5_add_30 ?_
    refine lv_iload_n hx hb dX5_add_33 rfl (lv_at hl 2 rfl) ?_
    refine lv_iload_n hx hb dX5_add_34 rfl (lv_at hl 3 rfl) ?_
    refine lv_iload_n hx hb dX5_add_35 rfl (lv_at hl 4 rfl) ?_
    obtain ⟨⟨o_8, o_9, o_10, o_11, o_12, o_13⟩, hc_14, h⟩ := ob_bind h
    dsimp only at h
    refine k_callVV (qb := 0) [2, 3, 4, 5] [0, 1, 2, 3] [2, 3, 4, 5] [(qn, .inr (1, [.int n_nodes, .int o_8, .int n_room, .int o_9, .int o_10, .ref qn_low, .ref qn_high, .ref qn_length])), (qn_low, .inl (cI, 18, .inl o_11)), (qn_high, .inl (cI, 18, .inl o_12)), (qn_length, .inl (cI, 18, .inl o_13))] (As := [.int p1, .int p2, .int p3]) (rest := []) ⟨hx, hb, hml, hown, hts⟩ hT hZ hA hP hD hS (c_X1_appendLink l D cI cZ cN aK aV qn qn_low qn_high qn_length n_nodes n_links n_room n_alive n_inMap n_low n_high n_length p1 p2 p3 o_8 o_9 o_10 o_11 o_12 o_13 hc_14) ⟨callB_of 3 hts (k_good u_365) rfl rfl rfl (hu _ u_46) (hu _ u_362) (by decide +kernel) ⟨Nat.le_of_ble_eq_true rfl, Nat.le_of_ble_eq_true rfl⟩, hu _ u_363, hu _ u_364⟩ rfl rfl rfl (by decide) (by decide) (by decide) rfl rfl rfl rfl hl.1 rfl (Nat.le_of_ble_eq_true rfl) dX5_add_36 (fun H locs hP hD hS => ?_)
    have hP : va_P D vwCl ([(qx, .inr (5, [.ref qn, .ref qd, .ref qx_history, .int o_5, .ref qx_images, .ref qx_kept, .ref qy, .ref qt, .int x_letterSent, .int (0 : Int32), .ref qv, .ref qz])), (qx_history, .inl (cN, 8, .inr (.inr (.inr (.inr (fun j => some (qh (o_4 j)))))))), (qn, .inr (1, [.int n_nodes, .int o_8, .int n_room, .int o_9, .int o_10, .ref qn_low, .ref qn_high, .ref qn_length])), (qn_low, .inl (cI, 18, .inl o_11)), (qn_high, .inl (cI, 18, .inl o_12)), (qn_length, .inl (cI, 18, .inl o_13))] ++ k_hc cI qh qhl qhg qht o_6) H := hP
    have hD : va_D A ([(qx, .inr (5, [.ref qn, .ref qd, .ref qx_history, .int o_5, .ref qx_images, .ref qx_kept, .ref qy, .ref qt, .int x_letterSent, .int (0 : Int32), .ref qv, .ref qz])), (qx_history, .inl (cN, 8, .inr (.inr (.inr (.inr (fun j => some (qh (o_4 j)))))))), (qn, .inr (1, [.int n_nodes, .int o_8, .int n_room, .int o_9, .int o_10, .ref qn_low, .ref qn_high, .ref qn_length])), (qn_low, .inl (cI, 18, .inl o_11)), (qn_high, .inl (cI, 18, .inl o_12)), (qn_length, .inl (cI, 18, .inl o_13))] ++ k_hc cI qh qhl qhg qht o_6) := hD
    refine lv_aload_n hx hb dX5_add_39 rfl (lv_at hl 1 rfl) ?_
    refine va_get (D := D) (ci := 5) (v := .ref qn) (C := RX5) (T := TX5) (N := 12) hx hb hu k_iX5 hown hK hP 0 rfl rfl 0 (by decide) (hu _ u_283) (fun _ h9 => h9) rfl dX5_add_40 ?_
    refine va_get (D := D) (ci := 1) (v := .int o_8) (C := RX1) (T := TX1) (N := 8) hx hb hu k_iX1 hown hK hP 2 rfl rfl 1 (by decide) (hu _ u_78) (fun _ h9 => h9) rfl dX5_add_43 ?_
    refine lv_iconst (v := (1 : Int32)) hx hb dX5_add_46 (by decide) ?_
    refine lv_isub hx hb dX5_add_47 ?_
    have hq := Option.some.inj h
    clear h
    obtain ⟨e0, hq0⟩ := Prod.mk.inj hq
    clear hq
    obtain ⟨e1, hq1⟩ := Prod.mk.inj hq0
    clear hq0
    obtain ⟨e2, hq2⟩ := Prod.mk.inj hq1
    clear hq1
    obtain ⟨e3, hq3⟩ := Prod.mk.inj hq2
    clear hq2
    obtain ⟨e4, hq4⟩ := Prod.mk.inj hq3
    clear hq3
    obtain ⟨e5, hq5⟩ := Prod.mk.inj hq4
    clear hq4
    obtain ⟨e6, hq6⟩ := Prod.mk.inj hq5
    clear hq5
    obtain ⟨e7, hq7⟩ := Prod.mk.inj hq6
    clear hq6
    obtain ⟨e8, hq8⟩ := Prod.mk.inj hq7
    clear hq7
    obtain ⟨e9, hq9⟩ := Prod.mk.inj hq8
    clear hq8
    subst e0
    subst e1
    subst e2
    subst e3
    subst e4
    subst e5
    subst e6
    subst e7
    subst e8
    subst e9
    subst hq9
    exact k_retI hx hb hr hlocks hP hD hS dX5_add_48
  · have h := (if_neg cc_3).symm.trans h
    refine lv_iload hx hb dX5_add_17 (lv_at hl 0 rfl) ?_
    have hq := Option.some.inj h
    clear h
    obtain ⟨e0, hq0⟩ := Prod.mk.inj hq
    clear hq
    obtain ⟨e1, hq1⟩ := Prod.mk.inj hq0
    clear hq0
    obtain ⟨e2, hq2⟩ := Prod.mk.inj hq1
    clear hq1
    obtain ⟨e3, hq3⟩ := Prod.mk.inj hq2
    clear hq2
    obtain ⟨e4, hq4⟩ := Prod.mk.inj hq3
    clear hq3
    obtain ⟨e5, hq5⟩ := Prod.mk.inj hq4
    clear hq4
    obtain ⟨e6, hq6⟩ := Prod.mk.inj hq5
    clear hq5
    obtain ⟨e7, hq7⟩ := Prod.mk.inj hq6
    clear hq6
    obtain ⟨e8, hq8⟩ := Prod.mk.inj hq7
    clear hq7
    obtain ⟨e9, hq9⟩ := Prod.mk.inj hq8
    clear hq8
    subst e0
    subst e1
    subst e2
    subst e3
    subst e4
    subst e5
    subst e6
    subst e7
    subst e8
    subst e9
    subst hq9
    exact k_retI hx hb hr hlocks hP hD hS dX5_add_19
def f_X5_remove (p1 : Int32) (x_pi : (Nat → Nat)) (x_undoable : Int32) (x_letterFits : Int32) (n_nodes : Int32) (n_links : Int32) (n_room : Int32) (n_alive : Int32) (n_inMap : Int32) (n_low : (Nat → Int32)) (n_high : (Nat → Int32)) (n_length : (Nat → Int32)) (h_C : (Nat → NV)) : Option (Int32 × (Nat → Nat) × Int32 × Int32 × Int32 × Int32 × Int32 × (Nat → Int32) × (Nat → Int32) × (Nat → Int32) × (Nat → NV)) :=
  if (f_X1_hasLink p1 n_links) = (0 : Int32) then
    some ((-1 : Int32), x_pi, x_undoable, x_letterFits, n_links, n_alive, n_inMap, n_low, n_high, n_length, h_C)
  else
    (f_X5_recordState x_pi x_undoable n_nodes n_links n_room n_alive n_inMap n_low n_high n_length h_C).bind fun ⟨o_2, o_3, o_4⟩ =>
    (f_X1_dropLink p1 n_links n_alive n_inMap n_low n_high n_length).bind fun ⟨o_6, o_7, o_8, o_9, o_10, o_11⟩ =>
    some (o_6, o_2, o_3, (0 : Int32), o_6, o_7, o_8, o_9, o_10, o_11, o_4)
set_option maxHeartbeats 4000000 in
set_option maxRecDepth 100000 in
theorem c_X5_remove (l : Launch) (D : va_G) (cI cZ cN : ClassId) (aK aV : Nat → Nat)  (qx : Nat) (qx_history : Nat) (qx_images : Nat) (qx_kept : Nat) (qn : Nat) (qn_low : Nat) (qn_high : Nat) (qn_length : Nat) (qd : Nat) (qy : Nat) (qt : Nat) (qv : Nat) (qz : Nat) (qh : Nat → Nat) (qhl : Nat → Nat) (qhg : Nat → Nat) (qht : Nat → Nat) (x_pi : (Nat → Nat)) (x_undoable : Int32) (x_letterSent : Int32) (x_letterFits : Int32) (n_nodes : Int32) (n_links : Int32) (n_room : Int32) (n_alive : Int32) (n_inMap : Int32) (n_low : (Nat → Int32)) (n_high : (Nat → Int32)) (n_length : (Nat → Int32)) (h_C : (Nat → NV)) (p1 : Int32) (r : Int32) (z_x_pi : (Nat → Nat)) (z_x_undoable : Int32) (z_x_letterFits : Int32) (z_n_links : Int32) (z_n_alive : Int32) (z_n_inMap : Int32) (z_n_low : (Nat → Int32)) (z_n_high : (Nat → Int32)) (z_n_length : (Nat → Int32)) (z_h_C : (Nat → NV)) (h : f_X5_remove p1 x_pi x_undoable x_letterFits n_nodes n_links n_room n_alive n_inMap n_low n_high n_length h_C = some (r, z_x_pi, z_x_undoable, z_x_letterFits, z_n_links, z_n_alive, z_n_inMap, z_n_low, z_n_high, z_n_length, z_h_C)) : CtI l D cI cZ cN aK aV yX5_remove (k_W yX5_remove cX5_remove 2 (some .int)) { frames := 2, cells := 0, slots := 0, locals := 44 } [.ref qx, .int p1] ([(qx, .inr (5, [.ref qn, .ref qd, .ref qx_history, .int x_undoable, .ref qx_images, .ref qx_kept, .ref qy, .ref qt, .int x_letterSent, .int x_letterFits, .ref qv, .ref qz])), (qx_history, .inl (cN, 8, .inr (.inr (.inr (.inr (fun j => some (qh (x_pi j)))))))), (qn, .inr (1, [.int n_nodes, .int n_links, .int n_room, .int n_alive, .int n_inMap, .ref qn_low, .ref qn_high, .ref qn_length])), (qn_low, .inl (cI, 18, .inl n_low)), (qn_high, .inl (cI, 18, .inl n_high)), (qn_length, .inl (cI, 18, .inl n_length))] ++ k_hc cI qh qhl qhg qht h_C) r ([(qx, .inr (5, [.ref qn, .ref qd, .ref qx_history, .int z_x_undoable, .ref qx_images, .ref qx_kept, .ref qy, .ref qt, .int x_letterSent, .int z_x_letterFits, .ref qv, .ref qz])), (qx_history, .inl (cN, 8, .inr (.inr (.inr (.inr (fun j => some (qh (z_x_pi j)))))))), (qn, .inr (1, [.int n_nodes, .int z_n_links, .int n_room, .int z_n_alive, .int z_n_inMap, .ref qn_low, .ref qn_high, .ref qn_length])), (qn_low, .inl (cI, 18, .inl z_n_low)), (qn_high, .inl (cI, 18, .inl z_n_high)), (qn_length, .inl (cI, 18, .inl z_n_length))] ++ k_hc cI qh qhl qhg qht z_h_C) := by
  refine k_startI (by decide) (Nat.le_of_ble_eq_true rfl) ?_
  intro p e s m below meth c A ls hx hb hr hml hown hts hlocks hT hZ hA hP hD hS hl
  have hK := hT.1
  have hu : ∀ w ∈ k_U, w.before ([.ref qx, .int p1] : List Value).toArray s = true := fun w h => hts w (List.mem_cons_of_mem _ h)
  have hown : s.vm.findClass RX5 = some m.cls := hown
  have hl : lv_has ls 2 [(0, .ref qx), (1, .int p1)] := hl
  unfold f_X5_remove at h
  refine lv_aload_n hx hb dX5_remove_0 rfl (lv_at hl 0 rfl) ?_
  refine va_get (D := D) (ci := 5) (v := .ref qn) (C := RX5) (T := TX5) (N := 12) hx hb hu k_iX5 hown hK hP 0 rfl rfl 0 (by decide) (hu _ u_283) (fun _ h9 => h9) rfl dX5_remove_1 ?_
  refine lv_iload_n hx hb dX5_remove_4 rfl (lv_at hl 1 rfl) ?_
  refine k_callVIr (qb := 0) [2] (As := [.int p1]) (rest := []) ⟨hx, hb, hml, hown, hts⟩ hT hZ hA hP hD hS (c_X1_hasLink l D cI cZ cN aK aV qn qn_low qn_high qn_length n_nodes n_links n_room n_alive n_inMap p1 _ rfl) ⟨callB_of 1 hts (k_good u_376) rfl rfl rfl (hu _ u_46) (hu _ u_373) (by decide +kernel) ⟨Nat.le_of_ble_eq_true rfl, Nat.le_of_ble_eq_true rfl⟩, hu _ u_374, hu _ u_375⟩ rfl rfl rfl (by decide) rfl hl.1 rfl (Nat.le_of_ble_eq_true rfl) dX5_remove_5 (fun H locs hP hD hS => ?_)
  refine lv_if_ne (tgt := 13) hx hb dX5_remove_8 (by decide) (fun cc_1 => ?_) (fun cc_1 => ?_)
  · have h := (if_neg cc_1).symm.trans h
    refine lv_aload_n hx hb dX5_remove_13 rfl (lv_at hl 0 rfl) ?_
    obtain ⟨⟨o_2, o_3, o_4⟩, hc_5, h⟩ := ob_bind h
    dsimp only at h
    refine k_callVVs (qb := 0) [] (As := []) (rest := []) ⟨hx, hb, hml, hown, hts⟩ hT hZ hA hP hD hS (c_X5_recordState l D cI cZ cN aK aV qx qx_history qx_images qx_kept qn qn_low qn_high qn_length qd qy qt qv qz qh qhl qhg qht x_pi x_undoable x_letterSent x_letterFits n_nodes n_links n_room n_alive n_inMap n_low n_high n_length h_C o_2 o_3 o_4 hc_5) ⟨callB_of 0 hts (k_good u_327) rfl rfl rfl (hu _ u_45) (hu _ u_324) (by decide +kernel) ⟨Nat.le_of_ble_eq_true rfl, Nat.le_of_ble_eq_true rfl⟩, hu _ u_326, hu _ u_0⟩ rfl rfl rfl rfl rfl hl.1 rfl (Nat.le_of_ble_eq_true rfl) dX5_remove_14 (fun H locs hP hD hS => ?_)
    have hP : va_P D vwCl ([(qx, .inr (5, [.ref qn, .ref qd, .ref qx_history, .int o_3, .ref qx_images, .ref qx_kept, .ref qy, .ref qt, .int x_letterSent, .int x_letterFits, .ref qv, .ref qz])), (qx_history, .inl (cN, 8, .inr (.inr (.inr (.inr (fun j => some (qh (o_2 j)))))))), (qn, .inr (1, [.int n_nodes, .int n_links, .int n_room, .int n_alive, .int n_inMap, .ref qn_low, .ref qn_high, .ref qn_length])), (qn_low, .inl (cI, 18, .inl n_low)), (qn_high, .inl (cI, 18, .inl n_high)), (qn_length, .inl (cI, 18, .inl n_length))] ++ k_hc cI qh qhl qhg qht o_4) H := hP
    have hD : va_D A ([(qx, .inr (5, [.ref qn, .ref qd, .ref qx_history, .int o_3, .ref qx_images, .ref qx_kept, .ref qy, .ref qt, .int x_letterSent, .int x_letterFits, .ref qv, .ref qz])), (qx_history, .inl (cN, 8, .inr (.inr (.inr (.inr (fun j => some (qh (o_2 j)))))))), (qn, .inr (1, [.int n_nodes, .int n_links, .int n_room, .int n_alive, .int n_inMap, .ref qn_low, .ref qn_high, .ref qn_length])), (qn_low, .inl (cI, 18, .inl n_low)), (qn_high, .inl (cI, 18, .inl n_high)), (qn_length, .inl (cI, 18, .inl n_length))] ++ k_hc cI qh qhl qhg qht o_4) := hD
    refine lv_aload_n hx hb dX5_remove_17 rfl (lv_at hl 0 rfl) ?_
    refine lv_iconst (v := (0 : Int32)) hx hb dX5_remove_18 (by decide) ?_
    refine va_put (D := D) (ci := 5) (v := .int (0 : Int32)) (ty := .boolean) (C := RX5) (T := TX5) (N := 12) hx hb hu k_iX5 tyX5 tyX5_ok nmX5 hown hK hP hD hS 0 rfl rfl 9 (by decide) (hu _ u_292) (fun _ h9 => h9) rfl (by decide +kernel) rfl rfl (Nat.le_of_ble_eq_true rfl) dX5_remove_19 (fun H locs hP hD hS => ?_)
    have hP : va_P D vwCl ([(qx, .inr (5, [.ref qn, .ref qd, .ref qx_history, .int o_3, .ref qx_images, .ref qx_kept, .ref qy, .ref qt, .int x_letterSent, .int (0 : Int32), .ref qv, .ref qz])), (qx_history, .inl (cN, 8, .inr (.inr (.inr (.inr (fun j => some (qh (o_2 j)))))))), (qn, .inr (1, [.int n_nodes, .int n_links, .int n_room, .int n_alive, .int n_inMap, .ref qn_low, .ref qn_high, .ref qn_length])), (qn_low, .inl (cI, 18, .inl n_low)), (qn_high, .inl (cI, 18, .inl n_high)), (qn_length, .inl (cI, 18, .inl n_length))] ++ k_hc cI qh qhl qhg qht o_4) H := hP
    have hD : va_D A ([(qx, .inr (5, [.ref qn, .ref qd, .ref qx_history, .int o_3, .ref qx_images, .ref qx_kept, .ref qy, .ref qt, .int x_letterSent, .int (0 : Int32), .ref qv, .ref qz])), (qx_history, .inl (cN, 8, .inr (.inr (.inr (.inr (fun j => some (qh (o_2 j)))))))), (qn, .inr (1, [.int n_nodes, .int n_links, .int n_room, .int n_alive, .int n_inMap, .ref qn_low, .ref qn_high, .ref qn_length])), (qn_low, .inl (cI, 18, .inl n_low)), (qn_high, .inl (cI, 18, .inl n_high)), (qn_length, .inl (cI, 18, .inl n_length))] ++ k_hc cI qh qhl qhg qht o_4) := hD
    refine lv_aload_n hx hb dX5_remove_22 rfl (lv_at hl 0 rfl) ?_
    refine va_get (D := D) (ci := 5) (v := .ref qn) (C := RX5) (T := TX5) (N := 12) hx hb hu k_iX5 hown hK hP 0 rfl rfl 0 (by decide) (hu _ u_283) (fun _ h9 => h9) rfl dX5_remove_23 ?_
    refine lv_iload_n hx hb dX5_remove_26 rfl (lv_at hl 1 rfl) ?_
    obtain ⟨⟨o_6, o_7, o_8, o_9, o_10, o_11⟩, hc_12, h⟩ := ob_bind h
    dsimp only at h
    refine k_callVV (qb := 0) [2, 3, 4, 5] [0, 1, 2, 3] [2, 3, 4, 5] [(qn, .inr (1, [.int n_nodes, .int o_6, .int n_room, .int o_7, .int o_8, .ref qn_low, .ref qn_high, .ref qn_length])), (qn_low, .inl (cI, 18, .inl o_9)), (qn_high, .inl (cI, 18, .inl o_10)), (qn_length, .inl (cI, 18, .inl o_11))] (As := [.int p1]) (rest := []) ⟨hx, hb, hml, hown, hts⟩ hT hZ hA hP hD hS (c_X1_dropLink l D cI cZ cN aK aV qn qn_low qn_high qn_length n_nodes n_links n_room n_alive n_inMap n_low n_high n_length p1 o_6 o_7 o_8 o_9 o_10 o_11 hc_12) ⟨callB_of 1 hts (k_good u_380) rfl rfl rfl (hu _ u_46) (hu _ u_377) (by decide +kernel) ⟨Nat.le_of_ble_eq_true rfl, Nat.le_of_ble_eq_true rfl⟩, hu _ u_378, hu _ u_379⟩ rfl rfl rfl (by decide) (by decide) (by decide) rfl rfl rfl rfl hl.1 rfl (Nat.le_of_ble_eq_true rfl) dX5_remove_27 (fun H locs hP hD hS => ?_)
    have hP : va_P D vwCl ([(qx, .inr (5, [.ref qn, .ref qd, .ref qx_history, .int o_3, .ref qx_images, .ref qx_kept, .ref qy, .ref qt, .int x_letterSent, .int (0 : Int32), .ref qv, .ref qz])), (qx_history, .inl (cN, 8, .inr (.inr (.inr (.inr (fun j => some (qh (o_2 j)))))))), (qn, .inr (1, [.int n_nodes, .int o_6, .int n_room, .int o_7, .int o_8, .ref qn_low, .ref qn_high, .ref qn_length])), (qn_low, .inl (cI, 18, .inl o_9)), (qn_high, .inl (cI, 18, .inl o_10)), (qn_length, .inl (cI, 18, .inl o_11))] ++ k_hc cI qh qhl qhg qht o_4) H := hP
    have hD : va_D A ([(qx, .inr (5, [.ref qn, .ref qd, .ref qx_history, .int o_3, .ref qx_images, .ref qx_kept, .ref qy, .ref qt, .int x_letterSent, .int (0 : Int32), .ref qv, .ref qz])), (qx_history, .inl (cN, 8, .inr (.inr (.inr (.inr (fun j => some (qh (o_2 j)))))))), (qn, .inr (1, [.int n_nodes, .int o_6, .int n_room, .int o_7, .int o_8, .ref qn_low, .ref qn_high, .ref qn_length])), (qn_low, .inl (cI, 18, .inl o_9)), (qn_high, .inl (cI, 18, .inl o_10)), (qn_length, .inl (cI, 18, .inl o_11))] ++ k_hc cI qh qhl qhg qht o_4) := hD
    refine lv_aload_n hx hb dX5_remove_30 rfl (lv_at hl 0 rfl) ?_
    refine va_get (D := D) (ci := 5) (v := .ref qn) (C := RX5) (T := TX5) (N := 12) hx hb hu k_iX5 hown hK hP 0 rfl rfl 0 (by decide) (hu _ u_283) (fun _ h9 => h9) rfl dX5_remove_31 ?_
    refine va_get (D := D) (ci := 1) (v := .int o_6) (C := RX1) (T := TX1) (N := 8) hx hb hu k_iX1 hown hK hP 2 rfl rfl 1 (by decide) (hu _ u_78) (fun _ h9 => h9) rfl dX5_remove_34 ?_
    have hq := Option.some.inj h
    clear h
    obtain ⟨e0, hq0⟩ := Prod.mk.inj hq
    clear hq
    obtain ⟨e1, hq1⟩ := Prod.mk.inj hq0
    clear hq0
    obtain ⟨e2, hq2⟩ := Prod.mk.inj hq1
    clear hq1
    obtain ⟨e3, hq3⟩ := Prod.mk.inj hq2
    clear hq2
    obtain ⟨e4, hq4⟩ := Prod.mk.inj hq3
    clear hq3
    obtain ⟨e5, hq5⟩ := Prod.mk.inj hq4
    clear hq4
    obtain ⟨e6, hq6⟩ := Prod.mk.inj hq5
    clear hq5
    obtain ⟨e7, hq7⟩ := Prod.mk.inj hq6
    clear hq6
    obtain ⟨e8, hq8⟩ := Prod.mk.inj hq7
    clear hq7
    obtain ⟨e9, hq9⟩ := Prod.mk.inj hq8
    clear hq8
    subst e0
    subst e1
    subst e2
    subst e3
    subst e4
    subst e5
    subst e6
    subst e7
    subst e8
    subst e9
    subst hq9
    exact k_retI hx hb hr hlocks hP hD hS dX5_remove_37
  · have h := (if_pos cc_1).symm.trans h
    refine lv_iconst (v := (-1 : Int32)) hx hb dX5_remove_11 (by decide) ?_
    have hq := Option.some.inj h
    clear h
    obtain ⟨e0, hq0⟩ := Prod.mk.inj hq
    clear hq
    obtain ⟨e1, hq1⟩ := Prod.mk.inj hq0
    clear hq0
    obtain ⟨e2, hq2⟩ := Prod.mk.inj hq1
    clear hq1
    obtain ⟨e3, hq3⟩ := Prod.mk.inj hq2
    clear hq2
    obtain ⟨e4, hq4⟩ := Prod.mk.inj hq3
    clear hq3
    obtain ⟨e5, hq5⟩ := Prod.mk.inj hq4
    clear hq4
    obtain ⟨e6, hq6⟩ := Prod.mk.inj hq5
    clear hq5
    obtain ⟨e7, hq7⟩ := Prod.mk.inj hq6
    clear hq6
    obtain ⟨e8, hq8⟩ := Prod.mk.inj hq7
    clear hq7
    obtain ⟨e9, hq9⟩ := Prod.mk.inj hq8
    clear hq8
    subst e0
    subst e1
    subst e2
    subst e3
    subst e4
    subst e5
    subst e6
    subst e7
    subst e8
    subst e9
    subst hq9
    exact k_retI hx hb hr hlocks hP hD hS dX5_remove_12
def f_X5_turn (p1 : Int32) (p2 : Int32) (x_pi : (Nat → Nat)) (x_undoable : Int32) (n_nodes : Int32) (n_links : Int32) (n_room : Int32) (n_alive : Int32) (n_inMap : Int32) (n_low : (Nat → Int32)) (n_high : (Nat → Int32)) (n_length : (Nat → Int32)) (h_C : (Nat → NV)) : Option (Int32 × (Nat → Nat) × Int32 × Int32 × (Nat → NV)) :=
  if (f_X1_hasLink p1 n_links) = (0 : Int32) then
    some ((-1 : Int32), x_pi, x_undoable, n_alive, h_C)
  else
    if (f_X5_isFlag p2) = (0 : Int32) then
      some ((-1 : Int32), x_pi, x_undoable, n_alive, h_C)
    else
      (f_X5_recordState x_pi x_undoable n_nodes n_links n_room n_alive n_inMap n_low n_high n_length h_C).bind fun ⟨o_3, o_4, o_5⟩ =>
      some ((f_X5_bit n_alive p1), o_3, o_4, (f_X5_withBit n_alive p1 p2), o_5)
set_option maxHeartbeats 4000000 in
set_option maxRecDepth 100000 in
theorem c_X5_turn (l : Launch) (D : va_G) (cI cZ cN : ClassId) (aK aV : Nat → Nat)  (qx : Nat) (qx_history : Nat) (qx_images : Nat) (qx_kept : Nat) (qn : Nat) (qn_low : Nat) (qn_high : Nat) (qn_length : Nat) (qd : Nat) (qy : Nat) (qt : Nat) (qv : Nat) (qz : Nat) (qh : Nat → Nat) (qhl : Nat → Nat) (qhg : Nat → Nat) (qht : Nat → Nat) (x_pi : (Nat → Nat)) (x_undoable : Int32) (x_letterSent : Int32) (x_letterFits : Int32) (n_nodes : Int32) (n_links : Int32) (n_room : Int32) (n_alive : Int32) (n_inMap : Int32) (n_low : (Nat → Int32)) (n_high : (Nat → Int32)) (n_length : (Nat → Int32)) (h_C : (Nat → NV)) (p1 p2 : Int32) (r : Int32) (z_x_pi : (Nat → Nat)) (z_x_undoable : Int32) (z_n_alive : Int32) (z_h_C : (Nat → NV)) (h : f_X5_turn p1 p2 x_pi x_undoable n_nodes n_links n_room n_alive n_inMap n_low n_high n_length h_C = some (r, z_x_pi, z_x_undoable, z_n_alive, z_h_C)) : CtI l D cI cZ cN aK aV yX5_turn (k_W yX5_turn cX5_turn 4 (some .int)) { frames := 2, cells := 0, slots := 0, locals := 42 } [.ref qx, .int p1, .int p2] ([(qx, .inr (5, [.ref qn, .ref qd, .ref qx_history, .int x_undoable, .ref qx_images, .ref qx_kept, .ref qy, .ref qt, .int x_letterSent, .int x_letterFits, .ref qv, .ref qz])), (qx_history, .inl (cN, 8, .inr (.inr (.inr (.inr (fun j => some (qh (x_pi j)))))))), (qn, .inr (1, [.int n_nodes, .int n_links, .int n_room, .int n_alive, .int n_inMap, .ref qn_low, .ref qn_high, .ref qn_length])), (qn_low, .inl (cI, 18, .inl n_low)), (qn_high, .inl (cI, 18, .inl n_high)), (qn_length, .inl (cI, 18, .inl n_length))] ++ k_hc cI qh qhl qhg qht h_C) r ([(qx, .inr (5, [.ref qn, .ref qd, .ref qx_history, .int z_x_undoable, .ref qx_images, .ref qx_kept, .ref qy, .ref qt, .int x_letterSent, .int x_letterFits, .ref qv, .ref qz])), (qx_history, .inl (cN, 8, .inr (.inr (.inr (.inr (fun j => some (qh (z_x_pi j)))))))), (qn, .inr (1, [.int n_nodes, .int n_links, .int n_room, .int z_n_alive, .int n_inMap, .ref qn_low, .ref qn_high, .ref qn_length])), (qn_low, .inl (cI, 18, .inl n_low)), (qn_high, .inl (cI, 18, .inl n_high)), (qn_length, .inl (cI, 18, .inl n_length))] ++ k_hc cI qh qhl qhg qht z_h_C) := by
  refine k_startI (by decide) (Nat.le_of_ble_eq_true rfl) ?_
  intro p e s m below meth c A ls hx hb hr hml hown hts hlocks hT hZ hA hP hD hS hl
  have hK := hT.1
  have hu : ∀ w ∈ k_U, w.before ([.ref qx, .int p1, .int p2] : List Value).toArray s = true := fun w h => hts w (List.mem_cons_of_mem _ h)
  have hown : s.vm.findClass RX5 = some m.cls := hown
  have hl : lv_has ls 4 [(0, .ref qx), (1, .int p1), (2, .int p2)] := hl
  unfold f_X5_turn at h
  refine lv_aload_n hx hb dX5_turn_0 rfl (lv_at hl 0 rfl) ?_
  refine va_get (D := D) (ci := 5) (v := .ref qn) (C := RX5) (T := TX5) (N := 12) hx hb hu k_iX5 hown hK hP 0 rfl rfl 0 (by decide) (hu _ u_283) (fun _ h9 => h9) rfl dX5_turn_1 ?_
  refine lv_iload_n hx hb dX5_turn_4 rfl (lv_at hl 1 rfl) ?_
  refine k_callVIr (qb := 0) [2] (As := [.int p1]) (rest := []) ⟨hx, hb, hml, hown, hts⟩ hT hZ hA hP hD hS (c_X1_hasLink l D cI cZ cN aK aV qn qn_low qn_high qn_length n_nodes n_links n_room n_alive n_inMap p1 _ rfl) ⟨callB_of 1 hts (k_good u_376) rfl rfl rfl (hu _ u_46) (hu _ u_373) (by decide +kernel) ⟨Nat.le_of_ble_eq_true rfl, Nat.le_of_ble_eq_true rfl⟩, hu _ u_374, hu _ u_375⟩ rfl rfl rfl (by decide) rfl hl.1 rfl (Nat.le_of_ble_eq_true rfl) dX5_turn_5 (fun H locs hP hD hS => ?_)
  refine lv_if_eq (tgt := 18) hx hb dX5_turn_8 (by decide) (fun cc_1 => ?_) (fun cc_1 => ?_)
  · have h := (if_pos cc_1).symm.trans h
    refine lv_iconst (v := (-1 : Int32)) hx hb dX5_turn_18 (by decide) ?_
    have hq := Option.some.inj h
    clear h
    obtain ⟨e0, hq0⟩ := Prod.mk.inj hq
    clear hq
    obtain ⟨e1, hq1⟩ := Prod.mk.inj hq0
    clear hq0
    obtain ⟨e2, hq2⟩ := Prod.mk.inj hq1
    clear hq1
    obtain ⟨e3, hq3⟩ := Prod.mk.inj hq2
    clear hq2
    subst e0
    subst e1
    subst e2
    subst e3
    subst hq3
    exact k_retI hx hb hr hlocks hP hD hS dX5_turn_19
  · have h := (if_neg cc_1).symm.trans h
    refine lv_iload_n hx hb dX5_turn_11 rfl (lv_at hl 2 rfl) ?_
    refine k_call0 (As := [.int p2]) (rest := []) ⟨hx, hb, hml, hown, hts⟩ hT hZ hA hP hD hS (c_X5_isFlag l D cI cZ cN aK aV p2 _ rfl) ⟨callB_of 1 hts (k_good u_390) rfl rfl rfl (hu _ u_45) (hu _ u_388) (by decide +kernel) ⟨Nat.le_of_ble_eq_true rfl, Nat.le_of_ble_eq_true rfl⟩, hu _ u_389⟩ rfl hl.1 rfl (Nat.le_of_ble_eq_true rfl) dX5_turn_12 (fun H locs hP hD hS => ?_)
    refine lv_if_ne (tgt := 20) hx hb dX5_turn_15 (by decide) (fun cc_2 => ?_) (fun cc_2 => ?_)
    · have h := (if_neg cc_2).symm.trans h
      refine lv_aload_n hx hb dX5_turn_20 rfl (lv_at hl 0 rfl) ?_
      refine va_get (D := D) (ci := 5) (v := .ref qn) (C := RX5) (T := TX5) (N := 12) hx hb hu k_iX5 hown hK hP 0 rfl rfl 0 (by decide) (hu _ u_283) (fun _ h9 => h9) rfl dX5_turn_21 ?_
      refine va_get (D := D) (ci := 1) (v := .int n_alive) (C := RX1) (T := TX1) (N := 8) hx hb hu k_iX1 hown hK hP 2 rfl rfl 3 (by decide) (hu _ u_85) (fun _ h9 => h9) rfl dX5_turn_24 ?_
      refine lv_iload_n hx hb dX5_turn_27 rfl (lv_at hl 1 rfl) ?_
      refine k_call0 (As := [.int n_alive, .int p1]) (rest := []) ⟨hx, hb, hml, hown, hts⟩ hT hZ hA hP hD hS (c_X5_bit l D cI cZ cN aK aV n_alive p1 _ rfl) ⟨callB_of 2 hts (k_good u_393) rfl rfl rfl (hu _ u_45) (hu _ u_391) (by decide +kernel) ⟨Nat.le_of_ble_eq_true rfl, Nat.le_of_ble_eq_true rfl⟩, hu _ u_392⟩ rfl hl.1 rfl (Nat.le_of_ble_eq_true rfl) dX5_turn_28 (fun H locs hP hD hS => ?_)
      refine lv_istore_n (lv' := [(3, .int (f_X5_bit n_alive p1)), (0, .ref qx), (1, .int p1), (2, .int p2)]) hx hb dX5_turn_31 rfl hl (by decide) rfl (fun ls hl => ?_)
      refine lv_aload_n hx hb dX5_turn_32 rfl (lv_at hl 1 rfl) ?_
      obtain ⟨⟨o_3, o_4, o_5⟩, hc_6, h⟩ := ob_bind h
      dsimp only at h
      refine k_callVVs (qb := 0) [] (As := []) (rest := []) ⟨hx, hb, hml, hown, hts⟩ hT hZ hA hP hD hS (c_X5_recordState l D cI cZ cN aK aV qx qx_history qx_images qx_kept qn qn_low qn_high qn_length qd qy qt qv qz qh qhl qhg qht x_pi x_undoable x_letterSent x_letterFits n_nodes n_links n_room n_alive n_inMap n_low n_high n_length h_C o_3 o_4 o_5 hc_6) ⟨callB_of 0 hts (k_good u_327) rfl rfl rfl (hu _ u_45) (hu _ u_324) (by decide +kernel) ⟨Nat.le_of_ble_eq_true rfl, Nat.le_of_ble_eq_true rfl⟩, hu _ u_326, hu _ u_0⟩ rfl rfl rfl rfl rfl hl.1 rfl (Nat.le_of_ble_eq_true rfl) dX5_turn_33 (fun H locs hP hD hS => ?_)
      have hP : va_P D vwCl ([(qx, .inr (5, [.ref qn, .ref qd, .ref qx_history, .int o_4, .ref qx_images, .ref qx_kept, .ref qy, .ref qt, .int x_letterSent, .int x_letterFits, .ref qv, .ref qz])), (qx_history, .inl (cN, 8, .inr (.inr (.inr (.inr (fun j => some (qh (o_3 j)))))))), (qn, .inr (1, [.int n_nodes, .int n_links, .int n_room, .int n_alive, .int n_inMap, .ref qn_low, .ref qn_high, .ref qn_length])), (qn_low, .inl (cI, 18, .inl n_low)), (qn_high, .inl (cI, 18, .inl n_high)), (qn_length, .inl (cI, 18, .inl n_length))] ++ k_hc cI qh qhl qhg qht o_5) H := hP
      have hD : va_D A ([(qx, .inr (5, [.ref qn, .ref qd, .ref qx_history, .int o_4, .ref qx_images, .ref qx_kept, .ref qy, .ref qt, .int x_letterSent, .int x_letterFits, .ref qv, .ref qz])), (qx_history, .inl (cN, 8, .inr (.inr (.inr (.inr (fun j => some (qh (o_3 j)))))))), (qn, .inr (1, [.int n_nodes, .int n_links, .int n_room, .int n_alive, .int n_inMap, .ref qn_low, .ref qn_high, .ref qn_length])), (qn_low, .inl (cI, 18, .inl n_low)), (qn_high, .inl (cI, 18, .inl n_high)), (qn_length, .inl (cI, 18, .inl n_length))] ++ k_hc cI qh qhl qhg qht o_5) := hD
      refine lv_aload_n hx hb dX5_turn_36 rfl (lv_at hl 1 rfl) ?_
      refine va_get (D := D) (ci := 5) (v := .ref qn) (C := RX5) (T := TX5) (N := 12) hx hb hu k_iX5 hown hK hP 0 rfl rfl 0 (by decide) (hu _ u_283) (fun _ h9 => h9) rfl dX5_turn_37 ?_
      refine lv_aload_n hx hb dX5_turn_40 rfl (lv_at hl 1 rfl) ?_
      refine va_get (D := D) (ci := 5) (v := .ref qn) (C := RX5) (T := TX5) (N := 12) hx hb hu k_iX5 hown hK hP 0 rfl rfl 0 (by decide) (hu _ u_283) (fun _ h9 => h9) rfl dX5_turn_41 ?_
      refine va_get (D := D) (ci := 1) (v := .int n_alive) (C := RX1) (T := TX1) (N := 8) hx hb hu k_iX1 hown hK hP 2 rfl rfl 3 (by decide) (hu _ u_85) (fun _ h9 => h9) rfl dX5_turn_44 ?_
      refine lv_iload_n hx hb dX5_turn_47 rfl (lv_at hl 2 rfl) ?_
      refine lv_iload_n hx hb dX5_turn_48 rfl (lv_at hl 3 rfl) ?_
      refine k_call0 (As := [.int n_alive, .int p1, .int p2]) (rest := [.ref qn]) ⟨hx, hb, hml, hown, hts⟩ hT hZ hA hP hD hS (c_X5_withBit l D cI cZ cN aK aV n_alive p1 p2 _ rfl) ⟨callB_of 3 hts (k_good u_368) rfl rfl rfl (hu _ u_45) (hu _ u_394) (by decide +kernel) ⟨Nat.le_of_ble_eq_true rfl, Nat.le_of_ble_eq_true rfl⟩, hu _ u_367⟩ rfl hl.1 rfl (Nat.le_of_ble_eq_true rfl) dX5_turn_49 (fun H locs hP hD hS => ?_)
      refine va_put (D := D) (ci := 1) (v := .int (f_X5_withBit n_alive p1 p2)) (ty := .int) (C := RX1) (T := TX1) (N := 8) hx hb hu k_iX1 tyX1 tyX1_ok nmX1 hown hK hP hD hS 2 rfl rfl 3 (by decide) (hu _ u_85) (fun _ h9 => h9) rfl (by decide +kernel) rfl rfl (Nat.le_of_ble_eq_true rfl) dX5_turn_52 (fun H locs hP hD hS => ?_)
      have hP : va_P D vwCl ([(qx, .inr (5, [.ref qn, .ref qd, .ref qx_history, .int o_4, .ref qx_images, .ref qx_kept, .ref qy, .ref qt, .int x_letterSent, .int x_letterFits, .ref qv, .ref qz])), (qx_history, .inl (cN, 8, .inr (.inr (.inr (.inr (fun j => some (qh (o_3 j)))))))), (qn, .inr (1, [.int n_nodes, .int n_links, .int n_room, .int (f_X5_withBit n_alive p1 p2), .int n_inMap, .ref qn_low, .ref qn_high, .ref qn_length])), (qn_low, .inl (cI, 18, .inl n_low)), (qn_high, .inl (cI, 18, .inl n_high)), (qn_length, .inl (cI, 18, .inl n_length))] ++ k_hc cI qh qhl qhg qht o_5) H := hP
      have hD : va_D A ([(qx, .inr (5, [.ref qn, .ref qd, .ref qx_history, .int o_4, .ref qx_images, .ref qx_kept, .ref qy, .ref qt, .int x_letterSent, .int x_letterFits, .ref qv, .ref qz])), (qx_history, .inl (cN, 8, .inr (.inr (.inr (.inr (fun j => some (qh (o_3 j)))))))), (qn, .inr (1, [.int n_nodes, .int n_links, .int n_room, .int (f_X5_withBit n_alive p1 p2), .int n_inMap, .ref qn_low, .ref qn_high, .ref qn_length])), (qn_low, .inl (cI, 18, .inl n_low)), (qn_high, .inl (cI, 18, .inl n_high)), (qn_length, .inl (cI, 18, .inl n_length))] ++ k_hc cI qh qhl qhg qht o_5) := hD
      refine lv_iload_n hx hb dX5_turn_55 rfl (lv_at hl 0 rfl) ?_
      have hq := Option.some.inj h
      clear h
      obtain ⟨e0, hq0⟩ := Prod.mk.inj hq
      clear hq
      obtain ⟨e1, hq1⟩ := Prod.mk.inj hq0
      clear hq0
      obtain ⟨e2, hq2⟩ := Prod.mk.inj hq1
      clear hq1
      obtain ⟨e3, hq3⟩ := Prod.mk.inj hq2
      clear hq2
      subst e0
      subst e1
      subst e2
      subst e3
      subst hq3
      exact k_retI hx hb hr hlocks hP hD hS dX5_turn_56
    · have h := (if_pos cc_2).symm.trans h
      refine lv_iconst (v := (-1 : Int32)) hx hb dX5_turn_18 (by decide) ?_
      have hq := Option.some.inj h
      clear h
      obtain ⟨e0, hq0⟩ := Prod.mk.inj hq
      clear hq
      obtain ⟨e1, hq1⟩ := Prod.mk.inj hq0
      clear hq0
      obtain ⟨e2, hq2⟩ := Prod.mk.inj hq1
      clear hq1
      obtain ⟨e3, hq3⟩ := Prod.mk.inj hq2
      clear hq2
      subst e0
      subst e1
      subst e2
      subst e3
      subst hq3
      exact k_retI hx hb hr hlocks hP hD hS dX5_turn_19
def f_X5_know (p1 : Int32) (p2 : Int32) (x_pi : (Nat → Nat)) (x_undoable : Int32) (n_nodes : Int32) (n_links : Int32) (n_room : Int32) (n_alive : Int32) (n_inMap : Int32) (n_low : (Nat → Int32)) (n_high : (Nat → Int32)) (n_length : (Nat → Int32)) (h_C : (Nat → NV)) : Option (Int32 × (Nat → Nat) × Int32 × Int32 × (Nat → NV)) :=
  if (f_X1_hasLink p1 n_links) = (0 : Int32) then
    some ((-1 : Int32), x_pi, x_undoable, n_inMap, h_C)
  else
    if (f_X5_isFlag p2) = (0 : Int32) then
      some ((-1 : Int32), x_pi, x_undoable, n_inMap, h_C)
    else
      (f_X5_recordState x_pi x_undoable n_nodes n_links n_room n_alive n_inMap n_low n_high n_length h_C).bind fun ⟨o_3, o_4, o_5⟩ =>
      some ((f_X5_bit n_inMap p1), o_3, o_4, (f_X5_withBit n_inMap p1 p2), o_5)
set_option maxHeartbeats 4000000 in
set_option maxRecDepth 100000 in
theorem c_X5_know (l : Launch) (D : va_G) (cI cZ cN : ClassId) (aK aV : Nat → Nat)  (qx : Nat) (qx_history : Nat) (qx_images : Nat) (qx_kept : Nat) (qn : Nat) (qn_low : Nat) (qn_high : Nat) (qn_length : Nat) (qd : Nat) (qy : Nat) (qt : Nat) (qv : Nat) (qz : Nat) (qh : Nat → Nat) (qhl : Nat → Nat) (qhg : Nat → Nat) (qht : Nat → Nat) (x_pi : (Nat → Nat)) (x_undoable : Int32) (x_letterSent : Int32) (x_letterFits : Int32) (n_nodes : Int32) (n_links : Int32) (n_room : Int32) (n_alive : Int32) (n_inMap : Int32) (n_low : (Nat → Int32)) (n_high : (Nat → Int32)) (n_length : (Nat → Int32)) (h_C : (Nat → NV)) (p1 p2 : Int32) (r : Int32) (z_x_pi : (Nat → Nat)) (z_x_undoable : Int32) (z_n_inMap : Int32) (z_h_C : (Nat → NV)) (h : f_X5_know p1 p2 x_pi x_undoable n_nodes n_links n_room n_alive n_inMap n_low n_high n_length h_C = some (r, z_x_pi, z_x_undoable, z_n_inMap, z_h_C)) : CtI l D cI cZ cN aK aV yX5_know (k_W yX5_know cX5_know 4 (some .int)) { frames := 2, cells := 0, slots := 0, locals := 42 } [.ref qx, .int p1, .int p2] ([(qx, .inr (5, [.ref qn, .ref qd, .ref qx_history, .int x_undoable, .ref qx_images, .ref qx_kept, .ref qy, .ref qt, .int x_letterSent, .int x_letterFits, .ref qv, .ref qz])), (qx_history, .inl (cN, 8, .inr (.inr (.inr (.inr (fun j => some (qh (x_pi j)))))))), (qn, .inr (1, [.int n_nodes, .int n_links, .int n_room, .int n_alive, .int n_inMap, .ref qn_low, .ref qn_high, .ref qn_length])), (qn_low, .inl (cI, 18, .inl n_low)), (qn_high, .inl (cI, 18, .inl n_high)), (qn_length, .inl (cI, 18, .inl n_length))] ++ k_hc cI qh qhl qhg qht h_C) r ([(qx, .inr (5, [.ref qn, .ref qd, .ref qx_history, .int z_x_undoable, .ref qx_images, .ref qx_kept, .ref qy, .ref qt, .int x_letterSent, .int x_letterFits, .ref qv, .ref qz])), (qx_history, .inl (cN, 8, .inr (.inr (.inr (.inr (fun j => some (qh (z_x_pi j)))))))), (qn, .inr (1, [.int n_nodes, .int n_links, .int n_room, .int n_alive, .int z_n_inMap, .ref qn_low, .ref qn_high, .ref qn_length])), (qn_low, .inl (cI, 18, .inl n_low)), (qn_high, .inl (cI, 18, .inl n_high)), (qn_length, .inl (cI, 18, .inl n_length))] ++ k_hc cI qh qhl qhg qht z_h_C) := by
  refine k_startI (by decide) (Nat.le_of_ble_eq_true rfl) ?_
  intro p e s m below meth c A ls hx hb hr hml hown hts hlocks hT hZ hA hP hD hS hl
  have hK := hT.1
  have hu : ∀ w ∈ k_U, w.before ([.ref qx, .int p1, .int p2] : List Value).toArray s = true := fun w h => hts w (List.mem_cons_of_mem _ h)
  have hown : s.vm.findClass RX5 = some m.cls := hown
  have hl : lv_has ls 4 [(0, .ref qx), (1, .int p1), (2, .int p2)] := hl
  unfold f_X5_know at h
  refine lv_aload_n hx hb dX5_know_0 rfl (lv_at hl 0 rfl) ?_
  refine va_get (D := D) (ci := 5) (v := .ref qn) (C := RX5) (T := TX5) (N := 12) hx hb hu k_iX5 hown hK hP 0 rfl rfl 0 (by decide) (hu _ u_283) (fun _ h9 => h9) rfl dX5_know_1 ?_
  refine lv_iload_n hx hb dX5_know_4 rfl (lv_at hl 1 rfl) ?_
  refine k_callVIr (qb := 0) [2] (As := [.int p1]) (rest := []) ⟨hx, hb, hml, hown, hts⟩ hT hZ hA hP hD hS (c_X1_hasLink l D cI cZ cN aK aV qn qn_low qn_high qn_length n_nodes n_links n_room n_alive n_inMap p1 _ rfl) ⟨callB_of 1 hts (k_good u_376) rfl rfl rfl (hu _ u_46) (hu _ u_373) (by decide +kernel) ⟨Nat.le_of_ble_eq_true rfl, Nat.le_of_ble_eq_true rfl⟩, hu _ u_374, hu _ u_375⟩ rfl rfl rfl (by decide) rfl hl.1 rfl (Nat.le_of_ble_eq_true rfl) dX5_know_5 (fun H locs hP hD hS => ?_)
  refine lv_if_eq (tgt := 18) hx hb dX5_know_8 (by decide) (fun cc_1 => ?_) (fun cc_1 => ?_)
  · have h := (if_pos cc_1).symm.trans h
    refine lv_iconst (v := (-1 : Int32)) hx hb dX5_know_18 (by decide) ?_
    have hq := Option.some.inj h
    clear h
    obtain ⟨e0, hq0⟩ := Prod.mk.inj hq
    clear hq
    obtain ⟨e1, hq1⟩ := Prod.mk.inj hq0
    clear hq0
    obtain ⟨e2, hq2⟩ := Prod.mk.inj hq1
    clear hq1
    obtain ⟨e3, hq3⟩ := Prod.mk.inj hq2
    clear hq2
    subst e0
    subst e1
    subst e2
    subst e3
    subst hq3
    exact k_retI hx hb hr hlocks hP hD hS dX5_know_19
  · have h := (if_neg cc_1).symm.trans h
    refine lv_iload_n hx hb dX5_know_11 rfl (lv_at hl 2 rfl) ?_
    refine k_call0 (As := [.int p2]) (rest := []) ⟨hx, hb, hml, hown, hts⟩ hT hZ hA hP hD hS (c_X5_isFlag l D cI cZ cN aK aV p2 _ rfl) ⟨callB_of 1 hts (k_good u_390) rfl rfl rfl (hu _ u_45) (hu _ u_388) (by decide +kernel) ⟨Nat.le_of_ble_eq_true rfl, Nat.le_of_ble_eq_true rfl⟩, hu _ u_389⟩ rfl hl.1 rfl (Nat.le_of_ble_eq_true rfl) dX5_know_12 (fun H locs hP hD hS => ?_)
    refine lv_if_ne (tgt := 20) hx hb dX5_know_15 (by decide) (fun cc_2 => ?_) (fun cc_2 => ?_)
    · have h := (if_neg cc_2).symm.trans h
      refine lv_aload_n hx hb dX5_know_20 rfl (lv_at hl 0 rfl) ?_
      refine va_get (D := D) (ci := 5) (v := .ref qn) (C := RX5) (T := TX5) (N := 12) hx hb hu k_iX5 hown hK hP 0 rfl rfl 0 (by decide) (hu _ u_283) (fun _ h9 => h9) rfl dX5_know_21 ?_
      refine va_get (D := D) (ci := 1) (v := .int n_inMap) (C := RX1) (T := TX1) (N := 8) hx hb hu k_iX1 hown hK hP 2 rfl rfl 4 (by decide) (hu _ u_89) (fun _ h9 => h9) rfl dX5_know_24 ?_
      refine lv_iload_n hx hb dX5_know_27 rfl (lv_at hl 1 rfl) ?_
      refine k_call0 (As := [.int n_inMap, .int p1]) (rest := []) ⟨hx, hb, hml, hown, hts⟩ hT hZ hA hP hD hS (c_X5_bit l D cI cZ cN aK aV n_inMap p1 _ rfl) ⟨callB_of 2 hts (k_good u_393) rfl rfl rfl (hu _ u_45) (hu _ u_391) (by decide +kernel) ⟨Nat.le_of_ble_eq_true rfl, Nat.le_of_ble_eq_true rfl⟩, hu _ u_392⟩ rfl hl.1 rfl (Nat.le_of_ble_eq_true rfl) dX5_know_28 (fun H locs hP hD hS => ?_)
      refine lv_istore_n (lv' := [(3, .int (f_X5_bit n_inMap p1)), (0, .ref qx), (1, .int p1), (2, .int p2)]) hx hb dX5_know_31 rfl hl (by decide) rfl (fun ls hl => ?_)
      refine lv_aload_n hx hb dX5_know_32 rfl (lv_at hl 1 rfl) ?_
      obtain ⟨⟨o_3, o_4, o_5⟩, hc_6, h⟩ := ob_bind h
      dsimp only at h
      refine k_callVVs (qb := 0) [] (As := []) (rest := []) ⟨hx, hb, hml, hown, hts⟩ hT hZ hA hP hD hS (c_X5_recordState l D cI cZ cN aK aV qx qx_history qx_images qx_kept qn qn_low qn_high qn_length qd qy qt qv qz qh qhl qhg qht x_pi x_undoable x_letterSent x_letterFits n_nodes n_links n_room n_alive n_inMap n_low n_high n_length h_C o_3 o_4 o_5 hc_6) ⟨callB_of 0 hts (k_good u_327) rfl rfl rfl (hu _ u_45) (hu _ u_324) (by decide +kernel) ⟨Nat.le_of_ble_eq_true rfl, Nat.le_of_ble_eq_true rfl⟩, hu _ u_326, hu _ u_0⟩ rfl rfl rfl rfl rfl hl.1 rfl (Nat.le_of_ble_eq_true rfl) dX5_know_33 (fun H locs hP hD hS => ?_)
      have hP : va_P D vwCl ([(qx, .inr (5, [.ref qn, .ref qd, .ref qx_history, .int o_4, .ref qx_images, .ref qx_kept, .ref qy, .ref qt, .int x_letterSent, .int x_letterFits, .ref qv, .ref qz])), (qx_history, .inl (cN, 8, .inr (.inr (.inr (.inr (fun j => some (qh (o_3 j)))))))), (qn, .inr (1, [.int n_nodes, .int n_links, .int n_room, .int n_alive, .int n_inMap, .ref qn_low, .ref qn_high, .ref qn_length])), (qn_low, .inl (cI, 18, .inl n_low)), (qn_high, .inl (cI, 18, .inl n_high)), (qn_length, .inl (cI, 18, .inl n_length))] ++ k_hc cI qh qhl qhg qht o_5) H := hP
      have hD : va_D A ([(qx, .inr (5, [.ref qn, .ref qd, .ref qx_history, .int o_4, .ref qx_images, .ref qx_kept, .ref qy, .ref qt, .int x_letterSent, .int x_letterFits, .ref qv, .ref qz])), (qx_history, .inl (cN, 8, .inr (.inr (.inr (.inr (fun j => some (qh (o_3 j)))))))), (qn, .inr (1, [.int n_nodes, .int n_links, .int n_room, .int n_alive, .int n_inMap, .ref qn_low, .ref qn_high, .ref qn_length])), (qn_low, .inl (cI, 18, .inl n_low)), (qn_high, .inl (cI, 18, .inl n_high)), (qn_length, .inl (cI, 18, .inl n_length))] ++ k_hc cI qh qhl qhg qht o_5) := hD
      refine lv_aload_n hx hb dX5_know_36 rfl (lv_at hl 1 rfl) ?_
      refine va_get (D := D) (ci := 5) (v := .ref qn) (C := RX5) (T := TX5) (N := 12) hx hb hu k_iX5 hown hK hP 0 rfl rfl 0 (by decide) (hu _ u_283) (fun _ h9 => h9) rfl dX5_know_37 ?_
      refine lv_aload_n hx hb dX5_know_40 rfl (lv_at hl 1 rfl) ?_
      refine va_get (D := D) (ci := 5) (v := .ref qn) (C := RX5) (T := TX5) (N := 12) hx hb hu k_iX5 hown hK hP 0 rfl rfl 0 (by decide) (hu _ u_283) (fun _ h9 => h9) rfl dX5_know_41 ?_
      refine va_get (D := D) (ci := 1) (v := .int n_inMap) (C := RX1) (T := TX1) (N := 8) hx hb hu k_iX1 hown hK hP 2 rfl rfl 4 (by decide) (hu _ u_89) (fun _ h9 => h9) rfl dX5_know_44 ?_
      refine lv_iload_n hx hb dX5_know_47 rfl (lv_at hl 2 rfl) ?_
      refine lv_iload_n hx hb dX5_know_48 rfl (lv_at hl 3 rfl) ?_
      refine k_call0 (As := [.int n_inMap, .int p1, .int p2]) (rest := [.ref qn]) ⟨hx, hb, hml, hown, hts⟩ hT hZ hA hP hD hS (c_X5_withBit l D cI cZ cN aK aV n_inMap p1 p2 _ rfl) ⟨callB_of 3 hts (k_good u_368) rfl rfl rfl (hu _ u_45) (hu _ u_394) (by decide +kernel) ⟨Nat.le_of_ble_eq_true rfl, Nat.le_of_ble_eq_true rfl⟩, hu _ u_367⟩ rfl hl.1 rfl (Nat.le_of_ble_eq_true rfl) dX5_know_49 (fun H locs hP hD hS => ?_)
      refine va_put (D := D) (ci := 1) (v := .int (f_X5_withBit n_inMap p1 p2)) (ty := .int) (C := RX1) (T := TX1) (N := 8) hx hb hu k_iX1 tyX1 tyX1_ok nmX1 hown hK hP hD hS 2 rfl rfl 4 (by decide) (hu _ u_89) (fun _ h9 => h9) rfl (by decide +kernel) rfl rfl (Nat.le_of_ble_eq_true rfl) dX5_know_52 (fun H locs hP hD hS => ?_)
      have hP : va_P D vwCl ([(qx, .inr (5, [.ref qn, .ref qd, .ref qx_history, .int o_4, .ref qx_images, .ref qx_kept, .ref qy, .ref qt, .int x_letterSent, .int x_letterFits, .ref qv, .ref qz])), (qx_history, .inl (cN, 8, .inr (.inr (.inr (.inr (fun j => some (qh (o_3 j)))))))), (qn, .inr (1, [.int n_nodes, .int n_links, .int n_room, .int n_alive, .int (f_X5_withBit n_inMap p1 p2), .ref qn_low, .ref qn_high, .ref qn_length])), (qn_low, .inl (cI, 18, .inl n_low)), (qn_high, .inl (cI, 18, .inl n_high)), (qn_length, .inl (cI, 18, .inl n_length))] ++ k_hc cI qh qhl qhg qht o_5) H := hP
      have hD : va_D A ([(qx, .inr (5, [.ref qn, .ref qd, .ref qx_history, .int o_4, .ref qx_images, .ref qx_kept, .ref qy, .ref qt, .int x_letterSent, .int x_letterFits, .ref qv, .ref qz])), (qx_history, .inl (cN, 8, .inr (.inr (.inr (.inr (fun j => some (qh (o_3 j)))))))), (qn, .inr (1, [.int n_nodes, .int n_links, .int n_room, .int n_alive, .int (f_X5_withBit n_inMap p1 p2), .ref qn_low, .ref qn_high, .ref qn_length])), (qn_low, .inl (cI, 18, .inl n_low)), (qn_high, .inl (cI, 18, .inl n_high)), (qn_length, .inl (cI, 18, .inl n_length))] ++ k_hc cI qh qhl qhg qht o_5) := hD
      refine lv_iload_n hx hb dX5_know_55 rfl (lv_at hl 0 rfl) ?_
      have hq := Option.some.inj h
      clear h
      obtain ⟨e0, hq0⟩ := Prod.mk.inj hq
      clear hq
      obtain ⟨e1, hq1⟩ := Prod.mk.inj hq0
      clear hq0
      obtain ⟨e2, hq2⟩ := Prod.mk.inj hq1
      clear hq1
      obtain ⟨e3, hq3⟩ := Prod.mk.inj hq2
      clear hq2
      subst e0
      subst e1
      subst e2
      subst e3
      subst hq3
      exact k_retI hx hb hr hlocks hP hD hS dX5_know_56
    · have h := (if_pos cc_2).symm.trans h
      refine lv_iconst (v := (-1 : Int32)) hx hb dX5_know_18 (by decide) ?_
      have hq := Option.some.inj h
      clear h
      obtain ⟨e0, hq0⟩ := Prod.mk.inj hq
      clear hq
      obtain ⟨e1, hq1⟩ := Prod.mk.inj hq0
      clear hq0
      obtain ⟨e2, hq2⟩ := Prod.mk.inj hq1
      clear hq1
      obtain ⟨e3, hq3⟩ := Prod.mk.inj hq2
      clear hq2
      subst e0
      subst e1
      subst e2
      subst e3
      subst hq3
      exact k_retI hx hb hr hlocks hP hD hS dX5_know_19
def f_X5_mend (x_pi : (Nat → Nat)) (x_undoable : Int32) (n_nodes : Int32) (n_links : Int32) (n_room : Int32) (n_alive : Int32) (n_inMap : Int32) (n_low : (Nat → Int32)) (n_high : (Nat → Int32)) (n_length : (Nat → Int32)) (h_C : (Nat → NV)) : Option (Int32 × (Nat → Nat) × Int32 × Int32 × (Nat → NV)) :=
  (f_X5_recordState x_pi x_undoable n_nodes n_links n_room n_alive n_inMap n_low n_high n_length h_C).bind fun ⟨o_1, o_2, o_3⟩ =>
  some ((f_X1_countWrongInMap n_alive n_inMap), o_1, o_2, n_alive, o_3)
set_option maxHeartbeats 4000000 in
set_option maxRecDepth 100000 in
theorem c_X5_mend (l : Launch) (D : va_G) (cI cZ cN : ClassId) (aK aV : Nat → Nat)  (qx : Nat) (qx_history : Nat) (qx_images : Nat) (qx_kept : Nat) (qn : Nat) (qn_low : Nat) (qn_high : Nat) (qn_length : Nat) (qd : Nat) (qy : Nat) (qt : Nat) (qv : Nat) (qz : Nat) (qh : Nat → Nat) (qhl : Nat → Nat) (qhg : Nat → Nat) (qht : Nat → Nat) (x_pi : (Nat → Nat)) (x_undoable : Int32) (x_letterSent : Int32) (x_letterFits : Int32) (n_nodes : Int32) (n_links : Int32) (n_room : Int32) (n_alive : Int32) (n_inMap : Int32) (n_low : (Nat → Int32)) (n_high : (Nat → Int32)) (n_length : (Nat → Int32)) (h_C : (Nat → NV)) (r : Int32) (z_x_pi : (Nat → Nat)) (z_x_undoable : Int32) (z_n_inMap : Int32) (z_h_C : (Nat → NV)) (h : f_X5_mend x_pi x_undoable n_nodes n_links n_room n_alive n_inMap n_low n_high n_length h_C = some (r, z_x_pi, z_x_undoable, z_n_inMap, z_h_C)) : CtI l D cI cZ cN aK aV yX5_mend (k_W yX5_mend cX5_mend 2 (some .int)) { frames := 2, cells := 0, slots := 0, locals := 42 } [.ref qx] ([(qx, .inr (5, [.ref qn, .ref qd, .ref qx_history, .int x_undoable, .ref qx_images, .ref qx_kept, .ref qy, .ref qt, .int x_letterSent, .int x_letterFits, .ref qv, .ref qz])), (qx_history, .inl (cN, 8, .inr (.inr (.inr (.inr (fun j => some (qh (x_pi j)))))))), (qn, .inr (1, [.int n_nodes, .int n_links, .int n_room, .int n_alive, .int n_inMap, .ref qn_low, .ref qn_high, .ref qn_length])), (qn_low, .inl (cI, 18, .inl n_low)), (qn_high, .inl (cI, 18, .inl n_high)), (qn_length, .inl (cI, 18, .inl n_length))] ++ k_hc cI qh qhl qhg qht h_C) r ([(qx, .inr (5, [.ref qn, .ref qd, .ref qx_history, .int z_x_undoable, .ref qx_images, .ref qx_kept, .ref qy, .ref qt, .int x_letterSent, .int x_letterFits, .ref qv, .ref qz])), (qx_history, .inl (cN, 8, .inr (.inr (.inr (.inr (fun j => some (qh (z_x_pi j)))))))), (qn, .inr (1, [.int n_nodes, .int n_links, .int n_room, .int n_alive, .int z_n_inMap, .ref qn_low, .ref qn_high, .ref qn_length])), (qn_low, .inl (cI, 18, .inl n_low)), (qn_high, .inl (cI, 18, .inl n_high)), (qn_length, .inl (cI, 18, .inl n_length))] ++ k_hc cI qh qhl qhg qht z_h_C) := by
  refine k_startI (by decide) (Nat.le_of_ble_eq_true rfl) ?_
  intro p e s m below meth c A ls hx hb hr hml hown hts hlocks hT hZ hA hP hD hS hl
  have hK := hT.1
  have hu : ∀ w ∈ k_U, w.before ([.ref qx] : List Value).toArray s = true := fun w h => hts w (List.mem_cons_of_mem _ h)
  have hown : s.vm.findClass RX5 = some m.cls := hown
  have hl : lv_has ls 2 [(0, .ref qx)] := hl
  unfold f_X5_mend at h
  refine lv_aload_n hx hb dX5_mend_0 rfl (lv_at hl 0 rfl) ?_
  refine va_get (D := D) (ci := 5) (v := .ref qn) (C := RX5) (T := TX5) (N := 12) hx hb hu k_iX5 hown hK hP 0 rfl rfl 0 (by decide) (hu _ u_283) (fun _ h9 => h9) rfl dX5_mend_1 ?_
  refine k_callVIr (qb := 0) [2] (As := []) (rest := []) ⟨hx, hb, hml, hown, hts⟩ hT hZ hA hP hD hS (c_X1_countWrongInMap l D cI cZ cN aK aV qn qn_low qn_high qn_length n_nodes n_links n_room n_alive n_inMap _ rfl) ⟨callB_of 0 hts (k_good u_406) rfl rfl rfl (hu _ u_46) (hu _ u_403) (by decide +kernel) ⟨Nat.le_of_ble_eq_true rfl, Nat.le_of_ble_eq_true rfl⟩, hu _ u_404, hu _ u_405⟩ rfl rfl rfl (by decide) rfl hl.1 rfl (Nat.le_of_ble_eq_true rfl) dX5_mend_4 (fun H locs hP hD hS => ?_)
  refine lv_istore_n (lv' := [(1, .int (f_X1_countWrongInMap n_alive n_inMap)), (0, .ref qx)]) hx hb dX5_mend_7 rfl hl (by decide) rfl (fun ls hl => ?_)
  refine lv_aload_n hx hb dX5_mend_8 rfl (lv_at hl 1 rfl) ?_
  obtain ⟨⟨o_1, o_2, o_3⟩, hc_4, h⟩ := ob_bind h
  dsimp only at h
  refine k_callVVs (qb := 0) [] (As := []) (rest := []) ⟨hx, hb, hml, hown, hts⟩ hT hZ hA hP hD hS (c_X5_recordState l D cI cZ cN aK aV qx qx_history qx_images qx_kept qn qn_low qn_high qn_length qd qy qt qv qz qh qhl qhg qht x_pi x_undoable x_letterSent x_letterFits n_nodes n_links n_room n_alive n_inMap n_low n_high n_length h_C o_1 o_2 o_3 hc_4) ⟨callB_of 0 hts (k_good u_327) rfl rfl rfl (hu _ u_45) (hu _ u_324) (by decide +kernel) ⟨Nat.le_of_ble_eq_true rfl, Nat.le_of_ble_eq_true rfl⟩, hu _ u_326, hu _ u_0⟩ rfl rfl rfl rfl rfl hl.1 rfl (Nat.le_of_ble_eq_true rfl) dX5_mend_9 (fun H locs hP hD hS => ?_)
  have hP : va_P D vwCl ([(qx, .inr (5, [.ref qn, .ref qd, .ref qx_history, .int o_2, .ref qx_images, .ref qx_kept, .ref qy, .ref qt, .int x_letterSent, .int x_letterFits, .ref qv, .ref qz])), (qx_history, .inl (cN, 8, .inr (.inr (.inr (.inr (fun j => some (qh (o_1 j)))))))), (qn, .inr (1, [.int n_nodes, .int n_links, .int n_room, .int n_alive, .int n_inMap, .ref qn_low, .ref qn_high, .ref qn_length])), (qn_low, .inl (cI, 18, .inl n_low)), (qn_high, .inl (cI, 18, .inl n_high)), (qn_length, .inl (cI, 18, .inl n_length))] ++ k_hc cI qh qhl qhg qht o_3) H := hP
  have hD : va_D A ([(qx, .inr (5, [.ref qn, .ref qd, .ref qx_history, .int o_2, .ref qx_images, .ref qx_kept, .ref qy, .ref qt, .int x_letterSent, .int x_letterFits, .ref qv, .ref qz])), (qx_history, .inl (cN, 8, .inr (.inr (.inr (.inr (fun j => some (qh (o_1 j)))))))), (qn, .inr (1, [.int n_nodes, .int n_links, .int n_room, .int n_alive, .int n_inMap, .ref qn_low, .ref qn_high, .ref qn_length])), (qn_low, .inl (cI, 18, .inl n_low)), (qn_high, .inl (cI, 18, .inl n_high)), (qn_length, .inl (cI, 18, .inl n_length))] ++ k_hc cI qh qhl qhg qht o_3) := hD
  refine lv_aload_n hx hb dX5_mend_12 rfl (lv_at hl 1 rfl) ?_
  refine va_get (D := D) (ci := 5) (v := .ref qn) (C := RX5) (T := TX5) (N := 12) hx hb hu k_iX5 hown hK hP 0 rfl rfl 0 (by decide) (hu _ u_283) (fun _ h9 => h9) rfl dX5_mend_13 ?_
  refine lv_aload_n hx hb dX5_mend_16 rfl (lv_at hl 1 rfl) ?_
  refine va_get (D := D) (ci := 5) (v := .ref qn) (C := RX5) (T := TX5) (N := 12) hx hb hu k_iX5 hown hK hP 0 rfl rfl 0 (by decide) (hu _ u_283) (fun _ h9 => h9) rfl dX5_mend_17 ?_
  refine va_get (D := D) (ci := 1) (v := .int n_alive) (C := RX1) (T := TX1) (N := 8) hx hb hu k_iX1 hown hK hP 2 rfl rfl 3 (by decide) (hu _ u_85) (fun _ h9 => h9) rfl dX5_mend_20 ?_
  refine va_put (D := D) (ci := 1) (v := .int n_alive) (ty := .int) (C := RX1) (T := TX1) (N := 8) hx hb hu k_iX1 tyX1 tyX1_ok nmX1 hown hK hP hD hS 2 rfl rfl 4 (by decide) (hu _ u_89) (fun _ h9 => h9) rfl (by decide +kernel) rfl rfl (Nat.le_of_ble_eq_true rfl) dX5_mend_23 (fun H locs hP hD hS => ?_)
  have hP : va_P D vwCl ([(qx, .inr (5, [.ref qn, .ref qd, .ref qx_history, .int o_2, .ref qx_images, .ref qx_kept, .ref qy, .ref qt, .int x_letterSent, .int x_letterFits, .ref qv, .ref qz])), (qx_history, .inl (cN, 8, .inr (.inr (.inr (.inr (fun j => some (qh (o_1 j)))))))), (qn, .inr (1, [.int n_nodes, .int n_links, .int n_room, .int n_alive, .int n_alive, .ref qn_low, .ref qn_high, .ref qn_length])), (qn_low, .inl (cI, 18, .inl n_low)), (qn_high, .inl (cI, 18, .inl n_high)), (qn_length, .inl (cI, 18, .inl n_length))] ++ k_hc cI qh qhl qhg qht o_3) H := hP
  have hD : va_D A ([(qx, .inr (5, [.ref qn, .ref qd, .ref qx_history, .int o_2, .ref qx_images, .ref qx_kept, .ref qy, .ref qt, .int x_letterSent, .int x_letterFits, .ref qv, .ref qz])), (qx_history, .inl (cN, 8, .inr (.inr (.inr (.inr (fun j => some (qh (o_1 j)))))))), (qn, .inr (1, [.int n_nodes, .int n_links, .int n_room, .int n_alive, .int n_alive, .ref qn_low, .ref qn_high, .ref qn_length])), (qn_low, .inl (cI, 18, .inl n_low)), (qn_high, .inl (cI, 18, .inl n_high)), (qn_length, .inl (cI, 18, .inl n_length))] ++ k_hc cI qh qhl qhg qht o_3) := hD
  refine lv_iload_n hx hb dX5_mend_26 rfl (lv_at hl 0 rfl) ?_
  have hq := Option.some.inj h
  clear h
  obtain ⟨e0, hq0⟩ := Prod.mk.inj hq
  clear hq
  obtain ⟨e1, hq1⟩ := Prod.mk.inj hq0
  clear hq0
  obtain ⟨e2, hq2⟩ := Prod.mk.inj hq1
  clear hq1
  obtain ⟨e3, hq3⟩ := Prod.mk.inj hq2
  clear hq2
  subst e0
  subst e1
  subst e2
  subst e3
  subst hq3
  exact k_retI hx hb hr hlocks hP hD hS dX5_mend_27
def f_X5_mendByLetter (x_pi : (Nat → Nat)) (x_undoable : Int32) (x_letterSent : Int32) (x_letterFits : Int32) (n_nodes : Int32) (n_links : Int32) (n_room : Int32) (n_alive : Int32) (n_inMap : Int32) (n_low : (Nat → Int32)) (n_high : (Nat → Int32)) (n_length : (Nat → Int32)) (t_list : Int32) (h_C : (Nat → NV)) : Option (Int32 × (Nat → Nat) × Int32 × Int32 × (Nat → NV)) :=
  if x_letterSent = (0 : Int32) then
    some ((-2 : Int32), x_pi, x_undoable, n_inMap, h_C)
  else
    if x_letterFits = (0 : Int32) then
      some ((-2 : Int32), x_pi, x_undoable, n_inMap, h_C)
    else
      (f_X5_recordState x_pi x_undoable n_nodes n_links n_room n_alive n_inMap n_low n_high n_length h_C).bind fun ⟨o_3, o_4, o_5⟩ =>
      some ((f_J6_bitCount_0f7a4 (n_inMap &&& t_list)), o_3, o_4, (n_inMap &&& (t_list ^^^ (-1 : Int32))), o_5)
set_option maxHeartbeats 4000000 in
set_option maxRecDepth 100000 in
theorem c_X5_mendByLetter (l : Launch) (D : va_G) (cI cZ cN : ClassId) (aK aV : Nat → Nat)  (qx : Nat) (qx_history : Nat) (qx_images : Nat) (qx_kept : Nat) (qn : Nat) (qn_low : Nat) (qn_high : Nat) (qn_length : Nat) (qd : Nat) (qy : Nat) (qt : Nat) (qt_visited : Nat) (qt_metLow : Nat) (qt_metHigh : Nat) (qv : Nat) (qz : Nat) (qh : Nat → Nat) (qhl : Nat → Nat) (qhg : Nat → Nat) (qht : Nat → Nat) (x_pi : (Nat → Nat)) (x_undoable : Int32) (x_letterSent : Int32) (x_letterFits : Int32) (n_nodes : Int32) (n_links : Int32) (n_room : Int32) (n_alive : Int32) (n_inMap : Int32) (n_low : (Nat → Int32)) (n_high : (Nat → Int32)) (n_length : (Nat → Int32)) (t_steps : Int32) (t_cost : Int32) (t_cause : Int32) (t_place : Int32) (t_computed : Int32) (t_list : Int32) (t_listed : Int32) (h_C : (Nat → NV)) (r : Int32) (z_x_pi : (Nat → Nat)) (z_x_undoable : Int32) (z_n_inMap : Int32) (z_h_C : (Nat → NV)) (h : f_X5_mendByLetter x_pi x_undoable x_letterSent x_letterFits n_nodes n_links n_room n_alive n_inMap n_low n_high n_length t_list h_C = some (r, z_x_pi, z_x_undoable, z_n_inMap, z_h_C)) : CtI l D cI cZ cN aK aV yX5_mendByLetter (k_W yX5_mendByLetter cX5_mendByLetter 2 (some .int)) { frames := 2, cells := 0, slots := 0, locals := 42 } [.ref qx] ([(qt, .inr (0, [.ref qn, .ref qy, .int t_steps, .int t_cost, .int t_cause, .int t_place, .int t_computed, .int t_list, .int t_listed, .ref qt_visited, .ref qt_metLow, .ref qt_metHigh])), (qx, .inr (5, [.ref qn, .ref qd, .ref qx_history, .int x_undoable, .ref qx_images, .ref qx_kept, .ref qy, .ref qt, .int x_letterSent, .int x_letterFits, .ref qv, .ref qz])), (qx_history, .inl (cN, 8, .inr (.inr (.inr (.inr (fun j => some (qh (x_pi j)))))))), (qn, .inr (1, [.int n_nodes, .int n_links, .int n_room, .int n_alive, .int n_inMap, .ref qn_low, .ref qn_high, .ref qn_length])), (qn_low, .inl (cI, 18, .inl n_low)), (qn_high, .inl (cI, 18, .inl n_high)), (qn_length, .inl (cI, 18, .inl n_length))] ++ k_hc cI qh qhl qhg qht h_C) r ([(qt, .inr (0, [.ref qn, .ref qy, .int t_steps, .int t_cost, .int t_cause, .int t_place, .int t_computed, .int t_list, .int t_listed, .ref qt_visited, .ref qt_metLow, .ref qt_metHigh])), (qx, .inr (5, [.ref qn, .ref qd, .ref qx_history, .int z_x_undoable, .ref qx_images, .ref qx_kept, .ref qy, .ref qt, .int x_letterSent, .int x_letterFits, .ref qv, .ref qz])), (qx_history, .inl (cN, 8, .inr (.inr (.inr (.inr (fun j => some (qh (z_x_pi j)))))))), (qn, .inr (1, [.int n_nodes, .int n_links, .int n_room, .int n_alive, .int z_n_inMap, .ref qn_low, .ref qn_high, .ref qn_length])), (qn_low, .inl (cI, 18, .inl n_low)), (qn_high, .inl (cI, 18, .inl n_high)), (qn_length, .inl (cI, 18, .inl n_length))] ++ k_hc cI qh qhl qhg qht z_h_C) := by
  refine k_startI (by decide) (Nat.le_of_ble_eq_true rfl) ?_
  intro p e s m below meth c A ls hx hb hr hml hown hts hlocks hT hZ hA hP hD hS hl
  have hK := hT.1
  have hu : ∀ w ∈ k_U, w.before ([.ref qx] : List Value).toArray s = true := fun w h => hts w (List.mem_cons_of_mem _ h)
  have hown : s.vm.findClass RX5 = some m.cls := hown
  have hl : lv_has ls 2 [(0, .ref qx)] := hl
  unfold f_X5_mendByLetter at h
  refine lv_aload_n hx hb dX5_mendByLetter_0 rfl (lv_at hl 0 rfl) ?_
  refine va_get (D := D) (ci := 5) (v := .int x_letterSent) (C := RX5) (T := TX5) (N := 12) hx hb hu k_iX5 hown hK hP 1 rfl rfl 8 (by decide) (hu _ u_291) (fun _ h9 => h9) rfl dX5_mendByLetter_1 ?_
  refine lv_if_eq (tgt := 14) hx hb dX5_mendByLetter_4 (by decide) (fun cc_1 => ?_) (fun cc_1 => ?_)
  · have h := (if_pos cc_1).symm.trans h
    refine lv_bipush (v := (-2 : Int32)) hx hb dX5_mendByLetter_14 (by decide) ?_
    have hq := Option.some.inj h
    clear h
    obtain ⟨e0, hq0⟩ := Prod.mk.inj hq
    clear hq
    obtain ⟨e1, hq1⟩ := Prod.mk.inj hq0
    clear hq0
    obtain ⟨e2, hq2⟩ := Prod.mk.inj hq1
    clear hq1
    obtain ⟨e3, hq3⟩ := Prod.mk.inj hq2
    clear hq2
    subst e0
    subst e1
    subst e2
    subst e3
    subst hq3
    exact k_retI hx hb hr hlocks hP hD hS dX5_mendByLetter_16
  · have h := (if_neg cc_1).symm.trans h
    refine lv_aload_n hx hb dX5_mendByLetter_7 rfl (lv_at hl 0 rfl) ?_
    refine va_get (D := D) (ci := 5) (v := .int x_letterFits) (C := RX5) (T := TX5) (N := 12) hx hb hu k_iX5 hown hK hP 1 rfl rfl 9 (by decide) (hu _ u_292) (fun _ h9 => h9) rfl dX5_mendByLetter_8 ?_
    refine lv_if_ne (tgt := 17) hx hb dX5_mendByLetter_11 (by decide) (fun cc_2 => ?_) (fun cc_2 => ?_)
    · have h := (if_neg cc_2).symm.trans h
      refine lv_aload_n hx hb dX5_mendByLetter_17 rfl (lv_at hl 0 rfl) ?_
      refine va_get (D := D) (ci := 5) (v := .ref qn) (C := RX5) (T := TX5) (N := 12) hx hb hu k_iX5 hown hK hP 1 rfl rfl 0 (by decide) (hu _ u_283) (fun _ h9 => h9) rfl dX5_mendByLetter_18 ?_
      refine va_get (D := D) (ci := 1) (v := .int n_inMap) (C := RX1) (T := TX1) (N := 8) hx hb hu k_iX1 hown hK hP 3 rfl rfl 4 (by decide) (hu _ u_89) (fun _ h9 => h9) rfl dX5_mendByLetter_21 ?_
      refine lv_aload_n hx hb dX5_mendByLetter_24 rfl (lv_at hl 0 rfl) ?_
      refine va_get (D := D) (ci := 5) (v := .ref qt) (C := RX5) (T := TX5) (N := 12) hx hb hu k_iX5 hown hK hP 1 rfl rfl 7 (by decide) (hu _ u_290) (fun _ h9 => h9) rfl dX5_mendByLetter_25 ?_
      refine va_get (D := D) (ci := 0) (v := .int t_list) (C := RX0) (T := TX0) (N := 12) hx hb hu k_iX0 hown hK hP 0 rfl rfl 7 (by decide) (hu _ u_159) (fun _ h9 => h9) rfl dX5_mendByLetter_28 ?_
      refine lv_iand hx hb dX5_mendByLetter_31 ?_
      refine k_call0 (As := [.int (n_inMap &&& t_list)]) (rest := []) ⟨hx, hb, hml, hown, hts⟩ hT hZ hA hP hD hS (c_J6_bitCount_0f7a4 l D cI cZ cN aK aV (n_inMap &&& t_list) _ rfl) ⟨callB_of 1 hts (k_good u_409) rfl rfl rfl (hu _ u_53) (hu _ u_417) (by decide +kernel) ⟨Nat.le_of_ble_eq_true rfl, Nat.le_of_ble_eq_true rfl⟩, hu _ u_408⟩ rfl hl.1 rfl (Nat.le_of_ble_eq_true rfl) dX5_mendByLetter_32 (fun H locs hP hD hS => ?_)
      refine lv_istore_n (lv' := [(1, .int (f_J6_bitCount_0f7a4 (n_inMap &&& t_list))), (0, .ref qx)]) hx hb dX5_mendByLetter_35 rfl hl (by decide) rfl (fun ls hl => ?_)
      refine lv_aload_n hx hb dX5_mendByLetter_36 rfl (lv_at hl 1 rfl) ?_
      obtain ⟨⟨o_3, o_4, o_5⟩, hc_6, h⟩ := ob_bind h
      dsimp only at h
      refine k_callVVs (qb := 0) [(qt, .inr (0, [.ref qn, .ref qy, .int t_steps, .int t_cost, .int t_cause, .int t_place, .int t_computed, .int t_list, .int t_listed, .ref qt_visited, .ref qt_metLow, .ref qt_metHigh]))] (As := []) (rest := []) ⟨hx, hb, hml, hown, hts⟩ hT hZ hA hP hD hS (c_X5_recordState l D cI cZ cN aK aV qx qx_history qx_images qx_kept qn qn_low qn_high qn_length qd qy qt qv qz qh qhl qhg qht x_pi x_undoable x_letterSent x_letterFits n_nodes n_links n_room n_alive n_inMap n_low n_high n_length h_C o_3 o_4 o_5 hc_6) ⟨callB_of 0 hts (k_good u_327) rfl rfl rfl (hu _ u_45) (hu _ u_324) (by decide +kernel) ⟨Nat.le_of_ble_eq_true rfl, Nat.le_of_ble_eq_true rfl⟩, hu _ u_326, hu _ u_0⟩ rfl rfl rfl rfl rfl hl.1 rfl (Nat.le_of_ble_eq_true rfl) dX5_mendByLetter_37 (fun H locs hP hD hS => ?_)
      have hP : va_P D vwCl ([(qt, .inr (0, [.ref qn, .ref qy, .int t_steps, .int t_cost, .int t_cause, .int t_place, .int t_computed, .int t_list, .int t_listed, .ref qt_visited, .ref qt_metLow, .ref qt_metHigh])), (qx, .inr (5, [.ref qn, .ref qd, .ref qx_history, .int o_4, .ref qx_images, .ref qx_kept, .ref qy, .ref qt, .int x_letterSent, .int x_letterFits, .ref qv, .ref qz])), (qx_history, .inl (cN, 8, .inr (.inr (.inr (.inr (fun j => some (qh (o_3 j)))))))), (qn, .inr (1, [.int n_nodes, .int n_links, .int n_room, .int n_alive, .int n_inMap, .ref qn_low, .ref qn_high, .ref qn_length])), (qn_low, .inl (cI, 18, .inl n_low)), (qn_high, .inl (cI, 18, .inl n_high)), (qn_length, .inl (cI, 18, .inl n_length))] ++ k_hc cI qh qhl qhg qht o_5) H := hP
      have hD : va_D A ([(qt, .inr (0, [.ref qn, .ref qy, .int t_steps, .int t_cost, .int t_cause, .int t_place, .int t_computed, .int t_list, .int t_listed, .ref qt_visited, .ref qt_metLow, .ref qt_metHigh])), (qx, .inr (5, [.ref qn, .ref qd, .ref qx_history, .int o_4, .ref qx_images, .ref qx_kept, .ref qy, .ref qt, .int x_letterSent, .int x_letterFits, .ref qv, .ref qz])), (qx_history, .inl (cN, 8, .inr (.inr (.inr (.inr (fun j => some (qh (o_3 j)))))))), (qn, .inr (1, [.int n_nodes, .int n_links, .int n_room, .int n_alive, .int n_inMap, .ref qn_low, .ref qn_high, .ref qn_length])), (qn_low, .inl (cI, 18, .inl n_low)), (qn_high, .inl (cI, 18, .inl n_high)), (qn_length, .inl (cI, 18, .inl n_length))] ++ k_hc cI qh qhl qhg qht o_5) := hD
      refine lv_aload_n hx hb dX5_mendByLetter_40 rfl (lv_at hl 1 rfl) ?_
      refine va_get (D := D) (ci := 5) (v := .ref qn) (C := RX5) (T := TX5) (N := 12) hx hb hu k_iX5 hown hK hP 1 rfl rfl 0 (by decide) (hu _ u_283) (fun _ h9 => h9) rfl dX5_mendByLetter_41 ?_
      refine lv_dup hx hb dX5_mendByLetter_44 rfl ?_
      refine va_get (D := D) (ci := 1) (v := .int n_inMap) (C := RX1) (T := TX1) (N := 8) hx hb hu k_iX1 hown hK hP 3 rfl rfl 4 (by decide) (hu _ u_89) (fun _ h9 => h9) rfl dX5_mendByLetter_45 ?_
      refine lv_aload_n hx hb dX5_mendByLetter_48 rfl (lv_at hl 1 rfl) ?_
      refine va_get (D := D) (ci := 5) (v := .ref qt) (C := RX5) (T := TX5) (N := 12) hx hb hu k_iX5 hown hK hP 1 rfl rfl 7 (by decide) (hu _ u_290) (fun _ h9 => h9) rfl dX5_mendByLetter_49 ?_
      refine va_get (D := D) (ci := 0) (v := .int t_list) (C := RX0) (T := TX0) (N := 12) hx hb hu k_iX0 hown hK hP 0 rfl rfl 7 (by decide) (hu _ u_159) (fun _ h9 => h9) rfl dX5_mendByLetter_52 ?_
      refine lv_iconst (v := (-1 : Int32)) hx hb dX5_mendByLetter_55 (by decide) ?_
      refine lv_ixor hx hb dX5_mendByLetter_56 ?_
      refine lv_iand hx hb dX5_mendByLetter_57 ?_
      refine va_put (D := D) (ci := 1) (v := .int (n_inMap &&& (t_list ^^^ (-1 : Int32)))) (ty := .int) (C := RX1) (T := TX1) (N := 8) hx hb hu k_iX1 tyX1 tyX1_ok nmX1 hown hK hP hD hS 3 rfl rfl 4 (by decide) (hu _ u_89) (fun _ h9 => h9) rfl (by decide +kernel) rfl rfl (Nat.le_of_ble_eq_true rfl) dX5_mendByLetter_58 (fun H locs hP hD hS => ?_)
      have hP : va_P D vwCl ([(qt, .inr (0, [.ref qn, .ref qy, .int t_steps, .int t_cost, .int t_cause, .int t_place, .int t_computed, .int t_list, .int t_listed, .ref qt_visited, .ref qt_metLow, .ref qt_metHigh])), (qx, .inr (5, [.ref qn, .ref qd, .ref qx_history, .int o_4, .ref qx_images, .ref qx_kept, .ref qy, .ref qt, .int x_letterSent, .int x_letterFits, .ref qv, .ref qz])), (qx_history, .inl (cN, 8, .inr (.inr (.inr (.inr (fun j => some (qh (o_3 j)))))))), (qn, .inr (1, [.int n_nodes, .int n_links, .int n_room, .int n_alive, .int (n_inMap &&& (t_list ^^^ (-1 : Int32))), .ref qn_low, .ref qn_high, .ref qn_length])), (qn_low, .inl (cI, 18, .inl n_low)), (qn_high, .inl (cI, 18, .inl n_high)), (qn_length, .inl (cI, 18, .inl n_length))] ++ k_hc cI qh qhl qhg qht o_5) H := hP
      have hD : va_D A ([(qt, .inr (0, [.ref qn, .ref qy, .int t_steps, .int t_cost, .int t_cause, .int t_place, .int t_computed, .int t_list, .int t_listed, .ref qt_visited, .ref qt_metLow, .ref qt_metHigh])), (qx, .inr (5, [.ref qn, .ref qd, .ref qx_history, .int o_4, .ref qx_images, .ref qx_kept, .ref qy, .ref qt, .int x_letterSent, .int x_letterFits, .ref qv, .ref qz])), (qx_history, .inl (cN, 8, .inr (.inr (.inr (.inr (fun j => some (qh (o_3 j)))))))), (qn, .inr (1, [.int n_nodes, .int n_links, .int n_room, .int n_alive, .int (n_inMap &&& (t_list ^^^ (-1 : Int32))), .ref qn_low, .ref qn_high, .ref qn_length])), (qn_low, .inl (cI, 18, .inl n_low)), (qn_high, .inl (cI, 18, .inl n_high)), (qn_length, .inl (cI, 18, .inl n_length))] ++ k_hc cI qh qhl qhg qht o_5) := hD
      refine lv_iload_n hx hb dX5_mendByLetter_61 rfl (lv_at hl 0 rfl) ?_
      have hq := Option.some.inj h
      clear h
      obtain ⟨e0, hq0⟩ := Prod.mk.inj hq
      clear hq
      obtain ⟨e1, hq1⟩ := Prod.mk.inj hq0
      clear hq0
      obtain ⟨e2, hq2⟩ := Prod.mk.inj hq1
      clear hq1
      obtain ⟨e3, hq3⟩ := Prod.mk.inj hq2
      clear hq2
      subst e0
      subst e1
      subst e2
      subst e3
      subst hq3
      exact k_retI hx hb hr hlocks hP hD hS dX5_mendByLetter_62
    · have h := (if_pos cc_2).symm.trans h
      refine lv_bipush (v := (-2 : Int32)) hx hb dX5_mendByLetter_14 (by decide) ?_
      have hq := Option.some.inj h
      clear h
      obtain ⟨e0, hq0⟩ := Prod.mk.inj hq
      clear hq
      obtain ⟨e1, hq1⟩ := Prod.mk.inj hq0
      clear hq0
      obtain ⟨e2, hq2⟩ := Prod.mk.inj hq1
      clear hq1
      obtain ⟨e3, hq3⟩ := Prod.mk.inj hq2
      clear hq2
      subst e0
      subst e1
      subst e2
      subst e3
      subst hq3
      exact k_retI hx hb hr hlocks hP hD hS dX5_mendByLetter_16
def f_X5_setRoom (p1 : Int32) (x_pi : (Nat → Nat)) (x_undoable : Int32) (n_nodes : Int32) (n_links : Int32) (n_room : Int32) (n_alive : Int32) (n_inMap : Int32) (n_low : (Nat → Int32)) (n_high : (Nat → Int32)) (n_length : (Nat → Int32)) (h_C : (Nat → NV)) : Option (Int32 × (Nat → Nat) × Int32 × Int32 × (Nat → NV)) :=
  if p1 < (0 : Int32) then
    some ((-1 : Int32), x_pi, x_undoable, n_room, h_C)
  else
    if p1 ≤ (18 : Int32) then
      (f_X5_recordState x_pi x_undoable n_nodes n_links n_room n_alive n_inMap n_low n_high n_length h_C).bind fun ⟨o_3, o_4, o_5⟩ =>
      some (n_room, o_3, o_4, p1, o_5)
    else
      some ((-1 : Int32), x_pi, x_undoable, n_room, h_C)
set_option maxHeartbeats 4000000 in
set_option maxRecDepth 100000 in
theorem c_X5_setRoom (l : Launch) (D : va_G) (cI cZ cN : ClassId) (aK aV : Nat → Nat)  (qx : Nat) (qx_history : Nat) (qx_images : Nat) (qx_kept : Nat) (qn : Nat) (qn_low : Nat) (qn_high : Nat) (qn_length : Nat) (qd : Nat) (qy : Nat) (qt : Nat) (qv : Nat) (qz : Nat) (qh : Nat → Nat) (qhl : Nat → Nat) (qhg : Nat → Nat) (qht : Nat → Nat) (x_pi : (Nat → Nat)) (x_undoable : Int32) (x_letterSent : Int32) (x_letterFits : Int32) (n_nodes : Int32) (n_links : Int32) (n_room : Int32) (n_alive : Int32) (n_inMap : Int32) (n_low : (Nat → Int32)) (n_high : (Nat → Int32)) (n_length : (Nat → Int32)) (h_C : (Nat → NV)) (p1 : Int32) (r : Int32) (z_x_pi : (Nat → Nat)) (z_x_undoable : Int32) (z_n_room : Int32) (z_h_C : (Nat → NV)) (h : f_X5_setRoom p1 x_pi x_undoable n_nodes n_links n_room n_alive n_inMap n_low n_high n_length h_C = some (r, z_x_pi, z_x_undoable, z_n_room, z_h_C)) : CtI l D cI cZ cN aK aV yX5_setRoom (k_W yX5_setRoom cX5_setRoom 3 (some .int)) { frames := 2, cells := 0, slots := 0, locals := 42 } [.ref qx, .int p1] ([(qx, .inr (5, [.ref qn, .ref qd, .ref qx_history, .int x_undoable, .ref qx_images, .ref qx_kept, .ref qy, .ref qt, .int x_letterSent, .int x_letterFits, .ref qv, .ref qz])), (qx_history, .inl (cN, 8, .inr (.inr (.inr (.inr (fun j => some (qh (x_pi j)))))))), (qn, .inr (1, [.int n_nodes, .int n_links, .int n_room, .int n_alive, .int n_inMap, .ref qn_low, .ref qn_high, .ref qn_length])), (qn_low, .inl (cI, 18, .inl n_low)), (qn_high, .inl (cI, 18, .inl n_high)), (qn_length, .inl (cI, 18, .inl n_length))] ++ k_hc cI qh qhl qhg qht h_C) r ([(qx, .inr (5, [.ref qn, .ref qd, .ref qx_history, .int z_x_undoable, .ref qx_images, .ref qx_kept, .ref qy, .ref qt, .int x_letterSent, .int x_letterFits, .ref qv, .ref qz])), (qx_history, .inl (cN, 8, .inr (.inr (.inr (.inr (fun j => some (qh (z_x_pi j)))))))), (qn, .inr (1, [.int n_nodes, .int n_links, .int z_n_room, .int n_alive, .int n_inMap, .ref qn_low, .ref qn_high, .ref qn_length])), (qn_low, .inl (cI, 18, .inl n_low)), (qn_high, .inl (cI, 18, .inl n_high)), (qn_length, .inl (cI, 18, .inl n_length))] ++ k_hc cI qh qhl qhg qht z_h_C) := by
  refine k_startI (by decide) (Nat.le_of_ble_eq_true rfl) ?_
  intro p e s m below meth c A ls hx hb hr hml hown hts hlocks hT hZ hA hP hD hS hl
  have hK := hT.1
  have hu : ∀ w ∈ k_U, w.before ([.ref qx, .int p1] : List Value).toArray s = true := fun w h => hts w (List.mem_cons_of_mem _ h)
  have hown : s.vm.findClass RX5 = some m.cls := hown
  have hl : lv_has ls 3 [(0, .ref qx), (1, .int p1)] := hl
  unfold f_X5_setRoom at h
  refine lv_iload_n hx hb dX5_setRoom_0 rfl (lv_at hl 1 rfl) ?_
  refine lv_if_lt (tgt := 10) hx hb dX5_setRoom_1 (by decide) (fun cc_1 => ?_) (fun cc_1 => ?_)
  · have h := (if_pos cc_1).symm.trans h
    refine lv_iconst (v := (-1 : Int32)) hx hb dX5_setRoom_10 (by decide) ?_
    have hq := Option.some.inj h
    clear h
    obtain ⟨e0, hq0⟩ := Prod.mk.inj hq
    clear hq
    obtain ⟨e1, hq1⟩ := Prod.mk.inj hq0
    clear hq0
    obtain ⟨e2, hq2⟩ := Prod.mk.inj hq1
    clear hq1
    obtain ⟨e3, hq3⟩ := Prod.mk.inj hq2
    clear hq2
    subst e0
    subst e1
    subst e2
    subst e3
    subst hq3
    exact k_retI hx hb hr hlocks hP hD hS dX5_setRoom_11
  · have h := (if_neg cc_1).symm.trans h
    refine lv_iload_n hx hb dX5_setRoom_4 rfl (lv_at hl 1 rfl) ?_
    refine lv_bipush (v := (18 : Int32)) hx hb dX5_setRoom_5 (by decide) ?_
    refine lv_icmp_le (tgt := 12) hx hb dX5_setRoom_7 (by decide) (fun cc_2 => ?_) (fun cc_2 => ?_)
    · have h := (if_pos cc_2).symm.trans h
      refine lv_aload_n hx hb dX5_setRoom_12 rfl (lv_at hl 0 rfl) ?_
      refine va_get (D := D) (ci := 5) (v := .ref qn) (C := RX5) (T := TX5) (N := 12) hx hb hu k_iX5 hown hK hP 0 rfl rfl 0 (by decide) (hu _ u_283) (fun _ h9 => h9) rfl dX5_setRoom_13 ?_
      refine va_get (D := D) (ci := 1) (v := .int n_room) (C := RX1) (T := TX1) (N := 8) hx hb hu k_iX1 hown hK hP 2 rfl rfl 2 (by decide) (hu _ u_81) (fun _ h9 => h9) rfl dX5_setRoom_16 ?_
      refine lv_istore_n (lv' := [(2, .int n_room), (0, .ref qx), (1, .int p1)]) hx hb dX5_setRoom_19 rfl hl (by decide) rfl (fun ls hl => ?_)
      refine lv_aload_n hx hb dX5_setRoom_20 rfl (lv_at hl 1 rfl) ?_
      obtain ⟨⟨o_3, o_4, o_5⟩, hc_6, h⟩ := ob_bind h
      dsimp only at h
      refine k_callVVs (qb := 0) [] (As := []) (rest := []) ⟨hx, hb, hml, hown, hts⟩ hT hZ hA hP hD hS (c_X5_recordState l D cI cZ cN aK aV qx qx_history qx_images qx_kept qn qn_low qn_high qn_length qd qy qt qv qz qh qhl qhg qht x_pi x_undoable x_letterSent x_letterFits n_nodes n_links n_room n_alive n_inMap n_low n_high n_length h_C o_3 o_4 o_5 hc_6) ⟨callB_of 0 hts (k_good u_327) rfl rfl rfl (hu _ u_45) (hu _ u_324) (by decide +kernel) ⟨Nat.le_of_ble_eq_true rfl, Nat.le_of_ble_eq_true rfl⟩, hu _ u_326, hu _ u_0⟩ rfl rfl rfl rfl rfl hl.1 rfl (Nat.le_of_ble_eq_true rfl) dX5_setRoom_21 (fun H locs hP hD hS => ?_)
      have hP : va_P D vwCl ([(qx, .inr (5, [.ref qn, .ref qd, .ref qx_history, .int o_4, .ref qx_images, .ref qx_kept, .ref qy, .ref qt, .int x_letterSent, .int x_letterFits, .ref qv, .ref qz])), (qx_history, .inl (cN, 8, .inr (.inr (.inr (.inr (fun j => some (qh (o_3 j)))))))), (qn, .inr (1, [.int n_nodes, .int n_links, .int n_room, .int n_alive, .int n_inMap, .ref qn_low, .ref qn_high, .ref qn_length])), (qn_low, .inl (cI, 18, .inl n_low)), (qn_high, .inl (cI, 18, .inl n_high)), (qn_length, .inl (cI, 18, .inl n_length))] ++ k_hc cI qh qhl qhg qht o_5) H := hP
      have hD : va_D A ([(qx, .inr (5, [.ref qn, .ref qd, .ref qx_history, .int o_4, .ref qx_images, .ref qx_kept, .ref qy, .ref qt, .int x_letterSent, .int x_letterFits, .ref qv, .ref qz])), (qx_history, .inl (cN, 8, .inr (.inr (.inr (.inr (fun j => some (qh (o_3 j)))))))), (qn, .inr (1, [.int n_nodes, .int n_links, .int n_room, .int n_alive, .int n_inMap, .ref qn_low, .ref qn_high, .ref qn_length])), (qn_low, .inl (cI, 18, .inl n_low)), (qn_high, .inl (cI, 18, .inl n_high)), (qn_length, .inl (cI, 18, .inl n_length))] ++ k_hc cI qh qhl qhg qht o_5) := hD
      refine lv_aload_n hx hb dX5_setRoom_24 rfl (lv_at hl 1 rfl) ?_
      refine va_get (D := D) (ci := 5) (v := .ref qn) (C := RX5) (T := TX5) (N := 12) hx hb hu k_iX5 hown hK hP 0 rfl rfl 0 (by decide) (hu _ u_283) (fun _ h9 => h9) rfl dX5_setRoom_25 ?_
      refine lv_iload_n hx hb dX5_setRoom_28 rfl (lv_at hl 2 rfl) ?_
      refine va_put (D := D) (ci := 1) (v := .int p1) (ty := .int) (C := RX1) (T := TX1) (N := 8) hx hb hu k_iX1 tyX1 tyX1_ok nmX1 hown hK hP hD hS 2 rfl rfl 2 (by decide) (hu _ u_81) (fun _ h9 => h9) rfl (by decide +kernel) rfl rfl (Nat.le_of_ble_eq_true rfl) dX5_setRoom_29 (fun H locs hP hD hS => ?_)
      have hP : va_P D vwCl ([(qx, .inr (5, [.ref qn, .ref qd, .ref qx_history, .int o_4, .ref qx_images, .ref qx_kept, .ref qy, .ref qt, .int x_letterSent, .int x_letterFits, .ref qv, .ref qz])), (qx_history, .inl (cN, 8, .inr (.inr (.inr (.inr (fun j => some (qh (o_3 j)))))))), (qn, .inr (1, [.int n_nodes, .int n_links, .int p1, .int n_alive, .int n_inMap, .ref qn_low, .ref qn_high, .ref qn_length])), (qn_low, .inl (cI, 18, .inl n_low)), (qn_high, .inl (cI, 18, .inl n_high)), (qn_length, .inl (cI, 18, .inl n_length))] ++ k_hc cI qh qhl qhg qht o_5) H := hP
      have hD : va_D A ([(qx, .inr (5, [.ref qn, .ref qd, .ref qx_history, .int o_4, .ref qx_images, .ref qx_kept, .ref qy, .ref qt, .int x_letterSent, .int x_letterFits, .ref qv, .ref qz])), (qx_history, .inl (cN, 8, .inr (.inr (.inr (.inr (fun j => some (qh (o_3 j)))))))), (qn, .inr (1, [.int n_nodes, .int n_links, .int p1, .int n_alive, .int n_inMap, .ref qn_low, .ref qn_high, .ref qn_length])), (qn_low, .inl (cI, 18, .inl n_low)), (qn_high, .inl (cI, 18, .inl n_high)), (qn_length, .inl (cI, 18, .inl n_length))] ++ k_hc cI qh qhl qhg qht o_5) := hD
      refine lv_iload_n hx hb dX5_setRoom_32 rfl (lv_at hl 0 rfl) ?_
      have hq := Option.some.inj h
      clear h
      obtain ⟨e0, hq0⟩ := Prod.mk.inj hq
      clear hq
      obtain ⟨e1, hq1⟩ := Prod.mk.inj hq0
      clear hq0
      obtain ⟨e2, hq2⟩ := Prod.mk.inj hq1
      clear hq1
      obtain ⟨e3, hq3⟩ := Prod.mk.inj hq2
      clear hq2
      subst e0
      subst e1
      subst e2
      subst e3
      subst hq3
      exact k_retI hx hb hr hlocks hP hD hS dX5_setRoom_33
    · have h := (if_neg cc_2).symm.trans h
      refine lv_iconst (v := (-1 : Int32)) hx hb dX5_setRoom_10 (by decide) ?_
      have hq := Option.some.inj h
      clear h
      obtain ⟨e0, hq0⟩ := Prod.mk.inj hq
      clear hq
      obtain ⟨e1, hq1⟩ := Prod.mk.inj hq0
      clear hq0
      obtain ⟨e2, hq2⟩ := Prod.mk.inj hq1
      clear hq1
      obtain ⟨e3, hq3⟩ := Prod.mk.inj hq2
      clear hq2
      subst e0
      subst e1
      subst e2
      subst e3
      subst hq3
      exact k_retI hx hb hr hlocks hP hD hS dX5_setRoom_11
def f_X5_undo (x_pi : (Nat → Nat)) (x_undoable : Int32) (x_letterFits : Int32) (n_nodes : Int32) (n_links : Int32) (n_room : Int32) (n_alive : Int32) (n_inMap : Int32) (n_low : (Nat → Int32)) (n_high : (Nat → Int32)) (n_length : (Nat → Int32)) (h_C : (Nat → NV)) : Option (Int32 × Int32 × Int32 × Int32 × Int32 × Int32 × Int32 × Int32 × (Nat → Int32) × (Nat → Int32) × (Nat → Int32)) :=
  if x_undoable ≤ (0 : Int32) then
    some ((-2 : Int32), x_undoable, x_letterFits, n_nodes, n_links, n_room, n_alive, n_inMap, n_low, n_high, n_length)
  else
    if x_undoable ≤ (8 : Int32) then
      if inb (x_undoable - (1 : Int32)) 8 = true then
      if (x_pi (Int32.toNatClampNeg (x_undoable - (1 : Int32)))) = 0 then
        (f_X1_copyFrom n_nodes n_links n_room n_alive n_inMap n_low n_high n_length (h_C 0).1 (h_C 0).2.1 (h_C 0).2.2.1 (h_C 0).2.2.2.1 (h_C 0).2.2.2.2.1 (h_C 0).2.2.2.2.2.1 (h_C 0).2.2.2.2.2.2.1 (h_C 0).2.2.2.2.2.2.2).bind fun ⟨o_4, o_5, o_6, o_7, o_8, o_9, o_10, o_11⟩ =>
        some ((x_undoable - (1 : Int32)), (x_undoable - (1 : Int32)), (0 : Int32), o_4, o_5, o_6, o_7, o_8, o_9, o_10, o_11)
      else
      if (x_pi (Int32.toNatClampNeg (x_undoable - (1 : Int32)))) = 1 then
        (f_X1_copyFrom n_nodes n_links n_room n_alive n_inMap n_low n_high n_length (h_C 1).1 (h_C 1).2.1 (h_C 1).2.2.1 (h_C 1).2.2.2.1 (h_C 1).2.2.2.2.1 (h_C 1).2.2.2.2.2.1 (h_C 1).2.2.2.2.2.2.1 (h_C 1).2.2.2.2.2.2.2).bind fun ⟨o_13, o_14, o_15, o_16, o_17, o_18, o_19, o_20⟩ =>
        some ((x_undoable - (1 : Int32)), (x_undoable - (1 : Int32)), (0 : Int32), o_13, o_14, o_15, o_16, o_17, o_18, o_19, o_20)
      else
      if (x_pi (Int32.toNatClampNeg (x_undoable - (1 : Int32)))) = 2 then
        (f_X1_copyFrom n_nodes n_links n_room n_alive n_inMap n_low n_high n_length (h_C 2).1 (h_C 2).2.1 (h_C 2).2.2.1 (h_C 2).2.2.2.1 (h_C 2).2.2.2.2.1 (h_C 2).2.2.2.2.2.1 (h_C 2).2.2.2.2.2.2.1 (h_C 2).2.2.2.2.2.2.2).bind fun ⟨o_22, o_23, o_24, o_25, o_26, o_27, o_28, o_29⟩ =>
        some ((x_undoable - (1 : Int32)), (x_undoable - (1 : Int32)), (0 : Int32), o_22, o_23, o_24, o_25, o_26, o_27, o_28, o_29)
      else
      if (x_pi (Int32.toNatClampNeg (x_undoable - (1 : Int32)))) = 3 then
        (f_X1_copyFrom n_nodes n_links n_room n_alive n_inMap n_low n_high n_length (h_C 3).1 (h_C 3).2.1 (h_C 3).2.2.1 (h_C 3).2.2.2.1 (h_C 3).2.2.2.2.1 (h_C 3).2.2.2.2.2.1 (h_C 3).2.2.2.2.2.2.1 (h_C 3).2.2.2.2.2.2.2).bind fun ⟨o_31, o_32, o_33, o_34, o_35, o_36, o_37, o_38⟩ =>
        some ((x_undoable - (1 : Int32)), (x_undoable - (1 : Int32)), (0 : Int32), o_31, o_32, o_33, o_34, o_35, o_36, o_37, o_38)
      else
      if (x_pi (Int32.toNatClampNeg (x_undoable - (1 : Int32)))) = 4 then
        (f_X1_copyFrom n_nodes n_links n_room n_alive n_inMap n_low n_high n_length (h_C 4).1 (h_C 4).2.1 (h_C 4).2.2.1 (h_C 4).2.2.2.1 (h_C 4).2.2.2.2.1 (h_C 4).2.2.2.2.2.1 (h_C 4).2.2.2.2.2.2.1 (h_C 4).2.2.2.2.2.2.2).bind fun ⟨o_40, o_41, o_42, o_43, o_44, o_45, o_46, o_47⟩ =>
        some ((x_undoable - (1 : Int32)), (x_undoable - (1 : Int32)), (0 : Int32), o_40, o_41, o_42, o_43, o_44, o_45, o_46, o_47)
      else
      if (x_pi (Int32.toNatClampNeg (x_undoable - (1 : Int32)))) = 5 then
        (f_X1_copyFrom n_nodes n_links n_room n_alive n_inMap n_low n_high n_length (h_C 5).1 (h_C 5).2.1 (h_C 5).2.2.1 (h_C 5).2.2.2.1 (h_C 5).2.2.2.2.1 (h_C 5).2.2.2.2.2.1 (h_C 5).2.2.2.2.2.2.1 (h_C 5).2.2.2.2.2.2.2).bind fun ⟨o_49, o_50, o_51, o_52, o_53, o_54, o_55, o_56⟩ =>
        some ((x_undoable - (1 : Int32)), (x_undoable - (1 : Int32)), (0 : Int32), o_49, o_50, o_51, o_52, o_53, o_54, o_55, o_56)
      else
      if (x_pi (Int32.toNatClampNeg (x_undoable - (1 : Int32)))) = 6 then
        (f_X1_copyFrom n_nodes n_links n_room n_alive n_inMap n_low n_high n_length (h_C 6).1 (h_C 6).2.1 (h_C 6).2.2.1 (h_C 6).2.2.2.1 (h_C 6).2.2.2.2.1 (h_C 6).2.2.2.2.2.1 (h_C 6).2.2.2.2.2.2.1 (h_C 6).2.2.2.2.2.2.2).bind fun ⟨o_58, o_59, o_60, o_61, o_62, o_63, o_64, o_65⟩ =>
        some ((x_undoable - (1 : Int32)), (x_undoable - (1 : Int32)), (0 : Int32), o_58, o_59, o_60, o_61, o_62, o_63, o_64, o_65)
      else
      if (x_pi (Int32.toNatClampNeg (x_undoable - (1 : Int32)))) = 7 then
        (f_X1_copyFrom n_nodes n_links n_room n_alive n_inMap n_low n_high n_length (h_C 7).1 (h_C 7).2.1 (h_C 7).2.2.1 (h_C 7).2.2.2.1 (h_C 7).2.2.2.2.1 (h_C 7).2.2.2.2.2.1 (h_C 7).2.2.2.2.2.2.1 (h_C 7).2.2.2.2.2.2.2).bind fun ⟨o_67, o_68, o_69, o_70, o_71, o_72, o_73, o_74⟩ =>
        some ((x_undoable - (1 : Int32)), (x_undoable - (1 : Int32)), (0 : Int32), o_67, o_68, o_69, o_70, o_71, o_72, o_73, o_74)
      else
      none
      else none
    else
      some ((-2 : Int32), x_undoable, x_letterFits, n_nodes, n_links, n_room, n_alive, n_inMap, n_low, n_high, n_length)
set_option maxHeartbeats 4000000 in
set_option maxRecDepth 100000 in
theorem c_X5_undo (l : Launch) (D : va_G) (cI cZ cN : ClassId) (aK aV : Nat → Nat)  (qx : Nat) (qx_history : Nat) (qx_images : Nat) (qx_kept : Nat) (qn : Nat) (qn_low : Nat) (qn_high : Nat) (qn_length : Nat) (qd : Nat) (qy : Nat) (qt : Nat) (qv : Nat) (qz : Nat) (qh : Nat → Nat) (qhl : Nat → Nat) (qhg : Nat → Nat) (qht : Nat → Nat) (x_pi : (Nat → Nat)) (x_undoable : Int32) (x_letterSent : Int32) (x_letterFits : Int32) (n_nodes : Int32) (n_links : Int32) (n_room : Int32) (n_alive : Int32) (n_inMap : Int32) (n_low : (Nat → Int32)) (n_high : (Nat → Int32)) (n_length : (Nat → Int32)) (h_C : (Nat → NV)) (r : Int32) (z_x_undoable : Int32) (z_x_letterFits : Int32) (z_n_nodes : Int32) (z_n_links : Int32) (z_n_room : Int32) (z_n_alive : Int32) (z_n_inMap : Int32) (z_n_low : (Nat → Int32)) (z_n_high : (Nat → Int32)) (z_n_length : (Nat → Int32)) (h : f_X5_undo x_pi x_undoable x_letterFits n_nodes n_links n_room n_alive n_inMap n_low n_high n_length h_C = some (r, z_x_undoable, z_x_letterFits, z_n_nodes, z_n_links, z_n_room, z_n_alive, z_n_inMap, z_n_low, z_n_high, z_n_length)) : CtI l D cI cZ cN aK aV yX5_undo (k_W yX5_undo cX5_undo 1 (some .int)) { frames := 1, cells := 0, slots := 0, locals := 22 } [.ref qx] ([(qx, .inr (5, [.ref qn, .ref qd, .ref qx_history, .int x_undoable, .ref qx_images, .ref qx_kept, .ref qy, .ref qt, .int x_letterSent, .int x_letterFits, .ref qv, .ref qz])), (qx_history, .inl (cN, 8, .inr (.inr (.inr (.inr (fun j => some (qh (x_pi j)))))))), (qn, .inr (1, [.int n_nodes, .int n_links, .int n_room, .int n_alive, .int n_inMap, .ref qn_low, .ref qn_high, .ref qn_length])), (qn_low, .inl (cI, 18, .inl n_low)), (qn_high, .inl (cI, 18, .inl n_high)), (qn_length, .inl (cI, 18, .inl n_length))] ++ k_hc cI qh qhl qhg qht h_C) r ([(qx, .inr (5, [.ref qn, .ref qd, .ref qx_history, .int z_x_undoable, .ref qx_images, .ref qx_kept, .ref qy, .ref qt, .int x_letterSent, .int z_x_letterFits, .ref qv, .ref qz])), (qx_history, .inl (cN, 8, .inr (.inr (.inr (.inr (fun j => some (qh (x_pi j)))))))), (qn, .inr (1, [.int z_n_nodes, .int z_n_links, .int z_n_room, .int z_n_alive, .int z_n_inMap, .ref qn_low, .ref qn_high, .ref qn_length])), (qn_low, .inl (cI, 18, .inl z_n_low)), (qn_high, .inl (cI, 18, .inl z_n_high)), (qn_length, .inl (cI, 18, .inl z_n_length))] ++ k_hc cI qh qhl qhg qht h_C) := by
  refine k_startI (by decide) (Nat.le_of_ble_eq_true rfl) ?_
  intro p e s m below meth c A ls hx hb hr hml hown hts hlocks hT hZ hA hP hD hS hl
  have hK := hT.1
  have hu : ∀ w ∈ k_U, w.before ([.ref qx] : List Value).toArray s = true := fun w h => hts w (List.mem_cons_of_mem _ h)
  have hown : s.vm.findClass RX5 = some m.cls := hown
  have hl : lv_has ls 1 [(0, .ref qx)] := hl
  unfold f_X5_undo at h
  refine lv_aload_n hx hb dX5_undo_0 rfl (lv_at hl 0 rfl) ?_
  refine va_get (D := D) (ci := 5) (v := .int x_undoable) (C := RX5) (T := TX5) (N := 12) hx hb hu k_iX5 hown hK hP 0 rfl rfl 3 (by decide) (hu _ u_286) (fun _ h9 => h9) rfl dX5_undo_1 ?_
  refine lv_if_le (tgt := 16) hx hb dX5_undo_4 (by decide) (fun cc_1 => ?_) (fun cc_1 => ?_)
  · have h := (if_pos cc_1).symm.trans h
    refine lv_bipush (v := (-2 : Int32)) hx hb dX5_undo_16 (by decide) ?_
    have hq := Option.some.inj h
    clear h
    obtain ⟨e0, hq0⟩ := Prod.mk.inj hq
    clear hq
    obtain ⟨e1, hq1⟩ := Prod.mk.inj hq0
    clear hq0
    obtain ⟨e2, hq2⟩ := Prod.mk.inj hq1
    clear hq1
    obtain ⟨e3, hq3⟩ := Prod.mk.inj hq2
    clear hq2
    obtain ⟨e4, hq4⟩ := Prod.mk.inj hq3
    clear hq3
    obtain ⟨e5, hq5⟩ := Prod.mk.inj hq4
    clear hq4
    obtain ⟨e6, hq6⟩ := Prod.mk.inj hq5
    clear hq5
    obtain ⟨e7, hq7⟩ := Prod.mk.inj hq6
    clear hq6
    obtain ⟨e8, hq8⟩ := Prod.mk.inj hq7
    clear hq7
    obtain ⟨e9, hq9⟩ := Prod.mk.inj hq8
    clear hq8
    subst e0
    subst e1
    subst e2
    subst e3
    subst e4
    subst e5
    subst e6
    subst e7
    subst e8
    subst e9
    subst hq9
    exact k_retI hx hb hr hlocks hP hD hS dX5_undo_18
  · have h := (if_neg cc_1).symm.trans h
    refine lv_aload_n hx hb dX5_undo_7 rfl (lv_at hl 0 rfl) ?_
    refine va_get (D := D) (ci := 5) (v := .int x_undoable) (C := RX5) (T := TX5) (N := 12) hx hb hu k_iX5 hown hK hP 0 rfl rfl 3 (by decide) (hu _ u_286) (fun _ h9 => h9) rfl dX5_undo_8 ?_
    refine lv_bipush (v := (8 : Int32)) hx hb dX5_undo_11 (by decide) ?_
    refine lv_icmp_le (tgt := 19) hx hb dX5_undo_13 (by decide) (fun cc_2 => ?_) (fun cc_2 => ?_)
    · have h := (if_pos cc_2).symm.trans h
      refine lv_aload_n hx hb dX5_undo_19 rfl (lv_at hl 0 rfl) ?_
      refine lv_dup hx hb dX5_undo_20 rfl ?_
      refine va_get (D := D) (ci := 5) (v := .int x_undoable) (C := RX5) (T := TX5) (N := 12) hx hb hu k_iX5 hown hK hP 0 rfl rfl 3 (by decide) (hu _ u_286) (fun _ h9 => h9) rfl dX5_undo_21 ?_
      refine lv_iconst (v := (1 : Int32)) hx hb dX5_undo_24 (by decide) ?_
      refine lv_isub hx hb dX5_undo_25 ?_
      refine va_put (D := D) (ci := 5) (v := .int (x_undoable - (1 : Int32))) (ty := .int) (C := RX5) (T := TX5) (N := 12) hx hb hu k_iX5 tyX5 tyX5_ok nmX5 hown hK hP hD hS 0 rfl rfl 3 (by decide) (hu _ u_286) (fun _ h9 => h9) rfl (by decide +kernel) rfl rfl (Nat.le_of_ble_eq_true rfl) dX5_undo_26 (fun H locs hP hD hS => ?_)
      have hP : va_P D vwCl ([(qx, .inr (5, [.ref qn, .ref qd, .ref qx_history, .int (x_undoable - (1 : Int32)), .ref qx_images, .ref qx_kept, .ref qy, .ref qt, .int x_letterSent, .int x_letterFits, .ref qv, .ref qz])), (qx_history, .inl (cN, 8, .inr (.inr (.inr (.inr (fun j => some (qh (x_pi j)))))))), (qn, .inr (1, [.int n_nodes, .int n_links, .int n_room, .int n_alive, .int n_inMap, .ref qn_low, .ref qn_high, .ref qn_length])), (qn_low, .inl (cI, 18, .inl n_low)), (qn_high, .inl (cI, 18, .inl n_high)), (qn_length, .inl (cI, 18, .inl n_length))] ++ k_hc cI qh qhl qhg qht h_C) H := hP
      have hD : va_D A ([(qx, .inr (5, [.ref qn, .ref qd, .ref qx_history, .int (x_undoable - (1 : Int32)), .ref qx_images, .ref qx_kept, .ref qy, .ref qt, .int x_letterSent, .int x_letterFits, .ref qv, .ref qz])), (qx_history, .inl (cN, 8, .inr (.inr (.inr (.inr (fun j => some (qh (x_pi j)))))))), (qn, .inr (1, [.int n_nodes, .int n_links, .int n_room, .int n_alive, .int n_inMap, .ref qn_low, .ref qn_high, .ref qn_length])), (qn_low, .inl (cI, 18, .inl n_low)), (qn_high, .inl (cI, 18, .inl n_high)), (qn_length, .inl (cI, 18, .inl n_length))] ++ k_hc cI qh qhl qhg qht h_C) := hD
      refine lv_aload_n hx hb dX5_undo_29 rfl (lv_at hl 0 rfl) ?_
      refine va_get (D := D) (ci := 5) (v := .ref qn) (C := RX5) (T := TX5) (N := 12) hx hb hu k_iX5 hown hK hP 0 rfl rfl 0 (by decide) (hu _ u_283) (fun _ h9 => h9) rfl dX5_undo_30 ?_
      refine lv_aload_n hx hb dX5_undo_33 rfl (lv_at hl 0 rfl) ?_
      refine va_get (D := D) (ci := 5) (v := .ref qx_history) (C := RX5) (T := TX5) (N := 12) hx hb hu k_iX5 hown hK hP 0 rfl rfl 2 (by decide) (hu _ u_285) (fun _ h9 => h9) rfl dX5_undo_34 ?_
      refine lv_aload_n hx hb dX5_undo_37 rfl (lv_at hl 0 rfl) ?_
      refine va_get (D := D) (ci := 5) (v := .int (x_undoable - (1 : Int32))) (C := RX5) (T := TX5) (N := 12) hx hb hu k_iX5 hown hK hP 0 rfl rfl 3 (by decide) (hu _ u_286) (fun _ h9 => h9) rfl dX5_undo_38 ?_
      obtain ⟨hin_3, h⟩ := ob_if h
      have hin_3 := inb_in hin_3
      refine va_aldq (D := D) hx hb hK hP 1 2 rfl rfl hin_3 dX5_undo_41 ?_
      by_cases sp_76 : (x_pi (Int32.toNatClampNeg (x_undoable - (1 : Int32)))) = 0
      · have h := (if_pos sp_76).symm.trans h
        refine W.eq (g2 := F0 m 42 ls [.ref (qh 0), .ref qn]) (by show F0 m _ ls (.ref (qh (x_pi (Int32.toNatClampNeg (x_undoable - (1 : Int32))))) :: _) = _; rw [sp_76]) ?_
        obtain ⟨⟨o_4, o_5, o_6, o_7, o_8, o_9, o_10, o_11⟩, hc_12, h⟩ := ob_bind h
        dsimp only at h
        refine k_callVV (qb := 0) [2, 3, 4, 5, 6, 7, 8, 9] [0, 1, 2, 3] [2, 3, 4, 5] [(qn, .inr (1, [.int o_4, .int o_5, .int o_6, .int o_7, .int o_8, .ref qn_low, .ref qn_high, .ref qn_length])), (qn_low, .inl (cI, 18, .inl o_9)), (qn_high, .inl (cI, 18, .inl o_10)), (qn_length, .inl (cI, 18, .inl o_11))] (As := [.ref (qh 0)]) (rest := []) ⟨hx, hb, hml, hown, hts⟩ hT hZ hA hP hD hS (c_X1_copyFrom l D cI cZ cN aK aV qn qn_low qn_high qn_length (qh 0) (qhl 0) (qhg 0) (qht 0) n_nodes n_links n_room n_alive n_inMap n_low n_high n_length (h_C 0).1 (h_C 0).2.1 (h_C 0).2.2.1 (h_C 0).2.2.2.1 (h_C 0).2.2.2.2.1 (h_C 0).2.2.2.2.2.1 (h_C 0).2.2.2.2.2.2.1 (h_C 0).2.2.2.2.2.2.2 o_4 o_5 o_6 o_7 o_8 o_9 o_10 o_11 hc_12) ⟨callB_of 1 hts (k_good u_335) rfl rfl rfl (hu _ u_46) (hu _ u_332) (by decide +kernel) ⟨Nat.le_of_ble_eq_true rfl, Nat.le_of_ble_eq_true rfl⟩, hu _ u_333, hu _ u_334⟩ rfl rfl rfl (by decide) (by decide) (by decide) rfl rfl rfl rfl hl.1 rfl (Nat.le_of_ble_eq_true rfl) dX5_undo_42 (fun H locs hP hD hS => ?_)
        have hP : va_P D vwCl ([(qx, .inr (5, [.ref qn, .ref qd, .ref qx_history, .int (x_undoable - (1 : Int32)), .ref qx_images, .ref qx_kept, .ref qy, .ref qt, .int x_letterSent, .int x_letterFits, .ref qv, .ref qz])), (qx_history, .inl (cN, 8, .inr (.inr (.inr (.inr (fun j => some (qh (x_pi j)))))))), (qn, .inr (1, [.int o_4, .int o_5, .int o_6, .int o_7, .int o_8, .ref qn_low, .ref qn_high, .ref qn_length])), (qn_low, .inl (cI, 18, .inl o_9)), (qn_high, .inl (cI, 18, .inl o_10)), (qn_length, .inl (cI, 18, .inl o_11))] ++ k_hc cI qh qhl qhg qht h_C) H := hP
        have hD : va_D A ([(qx, .inr (5, [.ref qn, .ref qd, .ref qx_history, .int (x_undoable - (1 : Int32)), .ref qx_images, .ref qx_kept, .ref qy, .ref qt, .int x_letterSent, .int x_letterFits, .ref qv, .ref qz])), (qx_history, .inl (cN, 8, .inr (.inr (.inr (.inr (fun j => some (qh (x_pi j)))))))), (qn, .inr (1, [.int o_4, .int o_5, .int o_6, .int o_7, .int o_8, .ref qn_low, .ref qn_high, .ref qn_length])), (qn_low, .inl (cI, 18, .inl o_9)), (qn_high, .inl (cI, 18, .inl o_10)), (qn_length, .inl (cI, 18, .inl o_11))] ++ k_hc cI qh qhl qhg qht h_C) := hD
        refine lv_aload_n hx hb dX5_undo_45 rfl (lv_at hl 0 rfl) ?_
        refine lv_iconst (v := (0 : Int32)) hx hb dX5_undo_46 (by decide) ?_
        refine va_put (D := D) (ci := 5) (v := .int (0 : Int32)) (ty := .boolean) (C := RX5) (T := TX5) (N := 12) hx hb hu k_iX5 tyX5 tyX5_ok nmX5 hown hK hP hD hS 0 rfl rfl 9 (by decide) (hu _ u_292) (fun _ h9 => h9) rfl (by decide +kernel) rfl rfl (Nat.le_of_ble_eq_true rfl) dX5_undo_47 (fun H locs hP hD hS => ?_)
        have hP : va_P D vwCl ([(qx, .inr (5, [.ref qn, .ref qd, .ref qx_history, .int (x_undoable - (1 : Int32)), .ref qx_images, .ref qx_kept, .ref qy, .ref qt, .int x_letterSent, .int (0 : Int32), .ref qv, .ref qz])), (qx_history, .inl (cN, 8, .inr (.inr (.inr (.inr (fun j => some (qh (x_pi j)))))))), (qn, .inr (1, [.int o_4, .int o_5, .int o_6, .int o_7, .int o_8, .ref qn_low, .ref qn_high, .ref qn_length])), (qn_low, .inl (cI, 18, .inl o_9)), (qn_high, .inl (cI, 18, .inl o_10)), (qn_length, .inl (cI, 18, .inl o_11))] ++ k_hc cI qh qhl qhg qht h_C) H := hP
        have hD : va_D A ([(qx, .inr (5, [.ref qn, .ref qd, .ref qx_history, .int (x_undoable - (1 : Int32)), .ref qx_images, .ref qx_kept, .ref qy, .ref qt, .int x_letterSent, .int (0 : Int32), .ref qv, .ref qz])), (qx_history, .inl (cN, 8, .inr (.inr (.inr (.inr (fun j => some (qh (x_pi j)))))))), (qn, .inr (1, [.int o_4, .int o_5, .int o_6, .int o_7, .int o_8, .ref qn_low, .ref qn_high, .ref qn_length])), (qn_low, .inl (cI, 18, .inl o_9)), (qn_high, .inl (cI, 18, .inl o_10)), (qn_length, .inl (cI, 18, .inl o_11))] ++ k_hc cI qh qhl qhg qht h_C) := hD
        refine lv_aload_n hx hb dX5_undo_50 rfl (lv_at hl 0 rfl) ?_
        refine va_get (D := D) (ci := 5) (v := .int (x_undoable - (1 : Int32))) (C := RX5) (T := TX5) (N := 12) hx hb hu k_iX5 hown hK hP 0 rfl rfl 3 (by decide) (hu _ u_286) (fun _ h9 => h9) rfl dX5_undo_51 ?_
        have hq := Option.some.inj h
        clear h
        obtain ⟨e0, hq0⟩ := Prod.mk.inj hq
        clear hq
        obtain ⟨e1, hq1⟩ := Prod.mk.inj hq0
        clear hq0
        obtain ⟨e2, hq2⟩ := Prod.mk.inj hq1
        clear hq1
        obtain ⟨e3, hq3⟩ := Prod.mk.inj hq2
        clear hq2
        obtain ⟨e4, hq4⟩ := Prod.mk.inj hq3
        clear hq3
        obtain ⟨e5, hq5⟩ := Prod.mk.inj hq4
        clear hq4
        obtain ⟨e6, hq6⟩ := Prod.mk.inj hq5
        clear hq5
        obtain ⟨e7, hq7⟩ := Prod.mk.inj hq6
        clear hq6
        obtain ⟨e8, hq8⟩ := Prod.mk.inj hq7
        clear hq7
        obtain ⟨e9, hq9⟩ := Prod.mk.inj hq8
        clear hq8
        subst e0
        subst e1
        subst e2
        subst e3
        subst e4
        subst e5
        subst e6
        subst e7
        subst e8
        subst e9
        subst hq9
        exact k_retI hx hb hr hlocks hP hD hS dX5_undo_54
      have h := (if_neg sp_76).symm.trans h
      by_cases sp_77 : (x_pi (Int32.toNatClampNeg (x_undoable - (1 : Int32)))) = 1
      · have h := (if_pos sp_77).symm.trans h
        refine W.eq (g2 := F0 m 42 ls [.ref (qh 1), .ref qn]) (by show F0 m _ ls (.ref (qh (x_pi (Int32.toNatClampNeg (x_undoable - (1 : Int32))))) :: _) = _; rw [sp_77]) ?_
        obtain ⟨⟨o_13, o_14, o_15, o_16, o_17, o_18, o_19, o_20⟩, hc_21, h⟩ := ob_bind h
        dsimp only at h
        refine k_callVV (qb := 0) [2, 3, 4, 5, 10, 11, 12, 13] [0, 1, 2, 3] [2, 3, 4, 5] [(qn, .inr (1, [.int o_13, .int o_14, .int o_15, .int o_16, .int o_17, .ref qn_low, .ref qn_high, .ref qn_length])), (qn_low, .inl (cI, 18, .inl o_18)), (qn_high, .inl (cI, 18, .inl o_19)), (qn_length, .inl (cI, 18, .inl o_20))] (As := [.ref (qh 1)]) (rest := []) ⟨hx, hb, hml, hown, hts⟩ hT hZ hA hP hD hS (c_X1_copyFrom l D cI cZ cN aK aV qn qn_low qn_high qn_length (qh 1) (qhl 1) (qhg 1) (qht 1) n_nodes n_links n_room n_alive n_inMap n_low n_high n_length (h_C 1).1 (h_C 1).2.1 (h_C 1).2.2.1 (h_C 1).2.2.2.1 (h_C 1).2.2.2.2.1 (h_C 1).2.2.2.2.2.1 (h_C 1).2.2.2.2.2.2.1 (h_C 1).2.2.2.2.2.2.2 o_13 o_14 o_15 o_16 o_17 o_18 o_19 o_20 hc_21) ⟨callB_of 1 hts (k_good u_335) rfl rfl rfl (hu _ u_46) (hu _ u_332) (by decide +kernel) ⟨Nat.le_of_ble_eq_true rfl, Nat.le_of_ble_eq_true rfl⟩, hu _ u_333, hu _ u_334⟩ rfl rfl rfl (by decide) (by decide) (by decide) rfl rfl rfl rfl hl.1 rfl (Nat.le_of_ble_eq_true rfl) dX5_undo_42 (fun H locs hP hD hS => ?_)
        have hP : va_P D vwCl ([(qx, .inr (5, [.ref qn, .ref qd, .ref qx_history, .int (x_undoable - (1 : Int32)), .ref qx_images, .ref qx_kept, .ref qy, .ref qt, .int x_letterSent, .int x_letterFits, .ref qv, .ref qz])), (qx_history, .inl (cN, 8, .inr (.inr (.inr (.inr (fun j => some (qh (x_pi j)))))))), (qn, .inr (1, [.int o_13, .int o_14, .int o_15, .int o_16, .int o_17, .ref qn_low, .ref qn_high, .ref qn_length])), (qn_low, .inl (cI, 18, .inl o_18)), (qn_high, .inl (cI, 18, .inl o_19)), (qn_length, .inl (cI, 18, .inl o_20))] ++ k_hc cI qh qhl qhg qht h_C) H := hP
        have hD : va_D A ([(qx, .inr (5, [.ref qn, .ref qd, .ref qx_history, .int (x_undoable - (1 : Int32)), .ref qx_images, .ref qx_kept, .ref qy, .ref qt, .int x_letterSent, .int x_letterFits, .ref qv, .ref qz])), (qx_history, .inl (cN, 8, .inr (.inr (.inr (.inr (fun j => some (qh (x_pi j)))))))), (qn, .inr (1, [.int o_13, .int o_14, .int o_15, .int o_16, .int o_17, .ref qn_low, .ref qn_high, .ref qn_length])), (qn_low, .inl (cI, 18, .inl o_18)), (qn_high, .inl (cI, 18, .inl o_19)), (qn_length, .inl (cI, 18, .inl o_20))] ++ k_hc cI qh qhl qhg qht h_C) := hD
        refine lv_aload_n hx hb dX5_undo_45 rfl (lv_at hl 0 rfl) ?_
        refine lv_iconst (v := (0 : Int32)) hx hb dX5_undo_46 (by decide) ?_
        refine va_put (D := D) (ci := 5) (v := .int (0 : Int32)) (ty := .boolean) (C := RX5) (T := TX5) (N := 12) hx hb hu k_iX5 tyX5 tyX5_ok nmX5 hown hK hP hD hS 0 rfl rfl 9 (by decide) (hu _ u_292) (fun _ h9 => h9) rfl (by decide +kernel) rfl rfl (Nat.le_of_ble_eq_true rfl) dX5_undo_47 (fun H locs hP hD hS => ?_)
        have hP : va_P D vwCl ([(qx, .inr (5, [.ref qn, .ref qd, .ref qx_history, .int (x_undoable - (1 : Int32)), .ref qx_images, .ref qx_kept, .ref qy, .ref qt, .int x_letterSent, .int (0 : Int32), .ref qv, .ref qz])), (qx_history, .inl (cN, 8, .inr (.inr (.inr (.inr (fun j => some (qh (x_pi j)))))))), (qn, .inr (1, [.int o_13, .int o_14, .int o_15, .int o_16, .int o_17, .ref qn_low, .ref qn_high, .ref qn_length])), (qn_low, .inl (cI, 18, .inl o_18)), (qn_high, .inl (cI, 18, .inl o_19)), (qn_length, .inl (cI, 18, .inl o_20))] ++ k_hc cI qh qhl qhg qht h_C) H := hP
        have hD : va_D A ([(qx, .inr (5, [.ref qn, .ref qd, .ref qx_history, .int (x_undoable - (1 : Int32)), .ref qx_images, .ref qx_kept, .ref qy, .ref qt, .int x_letterSent, .int (0 : Int32), .ref qv, .ref qz])), (qx_history, .inl (cN, 8, .inr (.inr (.inr (.inr (fun j => some (qh (x_pi j)))))))), (qn, .inr (1, [.int o_13, .int o_14, .int o_15, .int o_16, .int o_17, .ref qn_low, .ref qn_high, .ref qn_length])), (qn_low, .inl (cI, 18, .inl o_18)), (qn_high, .inl (cI, 18, .inl o_19)), (qn_length, .inl (cI, 18, .inl o_20))] ++ k_hc cI qh qhl qhg qht h_C) := hD
        refine lv_aload_n hx hb dX5_undo_50 rfl (lv_at hl 0 rfl) ?_
        refine va_get (D := D) (ci := 5) (v := .int (x_undoable - (1 : Int32))) (C := RX5) (T := TX5) (N := 12) hx hb hu k_iX5 hown hK hP 0 rfl rfl 3 (by decide) (hu _ u_286) (fun _ h9 => h9) rfl dX5_undo_51 ?_
        have hq := Option.some.inj h
        clear h
        obtain ⟨e0, hq0⟩ := Prod.mk.inj hq
        clear hq
        obtain ⟨e1, hq1⟩ := Prod.mk.inj hq0
        clear hq0
        obtain ⟨e2, hq2⟩ := Prod.mk.inj hq1
        clear hq1
        obtain ⟨e3, hq3⟩ := Prod.mk.inj hq2
        clear hq2
        obtain ⟨e4, hq4⟩ := Prod.mk.inj hq3
        clear hq3
        obtain ⟨e5, hq5⟩ := Prod.mk.inj hq4
        clear hq4
        obtain ⟨e6, hq6⟩ := Prod.mk.inj hq5
        clear hq5
        obtain ⟨e7, hq7⟩ := Prod.mk.inj hq6
        clear hq6
        obtain ⟨e8, hq8⟩ := Prod.mk.inj hq7
        clear hq7
        obtain ⟨e9, hq9⟩ := Prod.mk.inj hq8
        clear hq8
        subst e0
        subst e1
        subst e2
        subst e3
        subst e4
        subst e5
        subst e6
        subst e7
        subst e8
        subst e9
        subst hq9
        exact k_retI hx hb hr hlocks hP hD hS dX5_undo_54
      have h := (if_neg sp_77).symm.trans h
      by_cases sp_78 : (x_pi (Int32.toNatClampNeg (x_undoable - (1 : Int32)))) = 2
      · have h := (if_pos sp_78).symm.trans h
        refine W.eq (g2 := F0 m 42 ls [.ref (qh 2), .ref qn]) (by show F0 m _ ls (.ref (qh (x_pi (Int32.toNatClampNeg (x_undoable - (1 : Int32))))) :: _) = _; rw [sp_78]) ?_
        obtain ⟨⟨o_22, o_23, o_24, o_25, o_26, o_27, o_28, o_29⟩, hc_30, h⟩ := ob_bind h
        dsimp only at h
        refine k_callVV (qb := 0) [2, 3, 4, 5, 14, 15, 16, 17] [0, 1, 2, 3] [2, 3, 4, 5] [(qn, .inr (1, [.int o_22, .int o_23, .int o_24, .int o_25, .int o_26, .ref qn_low, .ref qn_high, .ref qn_length])), (qn_low, .inl (cI, 18, .inl o_27)), (qn_high, .inl (cI, 18, .inl o_28)), (qn_length, .inl (cI, 18, .inl o_29))] (As := [.ref (qh 2)]) (rest := []) ⟨hx, hb, hml, hown, hts⟩ hT hZ hA hP hD hS (c_X1_copyFrom l D cI cZ cN aK aV qn qn_low qn_high qn_length (qh 2) (qhl 2) (qhg 2) (qht 2) n_nodes n_links n_room n_alive n_inMap n_low n_high n_length (h_C 2).1 (h_C 2).2.1 (h_C 2).2.2.1 (h_C 2).2.2.2.1 (h_C 2).2.2.2.2.1 (h_C 2).2.2.2.2.2.1 (h_C 2).2.2.2.2.2.2.1 (h_C 2).2.2.2.2.2.2.2 o_22 o_23 o_24 o_25 o_26 o_27 o_28 o_29 hc_30) ⟨callB_of 1 hts (k_good u_335) rfl rfl rfl (hu _ u_46) (hu _ u_332) (by decide +kernel) ⟨Nat.le_of_ble_eq_true rfl, Nat.le_of_ble_eq_true rfl⟩, hu _ u_333, hu _ u_334⟩ rfl rfl rfl (by decide) (by decide) (by decide) rfl rfl rfl rfl hl.1 rfl (Nat.le_of_ble_eq_true rfl) dX5_undo_42 (fun H locs hP hD hS => ?_)
        have hP : va_P D vwCl ([(qx, .inr (5, [.ref qn, .ref qd, .ref qx_history, .int (x_undoable - (1 : Int32)), .ref qx_images, .ref qx_kept, .ref qy, .ref qt, .int x_letterSent, .int x_letterFits, .ref qv, .ref qz])), (qx_history, .inl (cN, 8, .inr (.inr (.inr (.inr (fun j => some (qh (x_pi j)))))))), (qn, .inr (1, [.int o_22, .int o_23, .int o_24, .int o_25, .int o_26, .ref qn_low, .ref qn_high, .ref qn_length])), (qn_low, .inl (cI, 18, .inl o_27)), (qn_high, .inl (cI, 18, .inl o_28)), (qn_length, .inl (cI, 18, .inl o_29))] ++ k_hc cI qh qhl qhg qht h_C) H := hP
        have hD : va_D A ([(qx, .inr (5, [.ref qn, .ref qd, .ref qx_history, .int (x_undoable - (1 : Int32)), .ref qx_images, .ref qx_kept, .ref qy, .ref qt, .int x_letterSent, .int x_letterFits, .ref qv, .ref qz])), (qx_history, .inl (cN, 8, .inr (.inr (.inr (.inr (fun j => some (qh (x_pi j)))))))), (qn, .inr (1, [.int o_22, .int o_23, .int o_24, .int o_25, .int o_26, .ref qn_low, .ref qn_high, .ref qn_length])), (qn_low, .inl (cI, 18, .inl o_27)), (qn_high, .inl (cI, 18, .inl o_28)), (qn_length, .inl (cI, 18, .inl o_29))] ++ k_hc cI qh qhl qhg qht h_C) := hD
        refine lv_aload_n hx hb dX5_undo_45 rfl (lv_at hl 0 rfl) ?_
        refine lv_iconst (v := (0 : Int32)) hx hb dX5_undo_46 (by decide) ?_
        refine va_put (D := D) (ci := 5) (v := .int (0 : Int32)) (ty := .boolean) (C := RX5) (T := TX5) (N := 12) hx hb hu k_iX5 tyX5 tyX5_ok nmX5 hown hK hP hD hS 0 rfl rfl 9 (by decide) (hu _ u_292) (fun _ h9 => h9) rfl (by decide +kernel) rfl rfl (Nat.le_of_ble_eq_true rfl) dX5_undo_47 (fun H locs hP hD hS => ?_)
        have hP : va_P D vwCl ([(qx, .inr (5, [.ref qn, .ref qd, .ref qx_history, .int (x_undoable - (1 : Int32)), .ref qx_images, .ref qx_kept, .ref qy, .ref qt, .int x_letterSent, .int (0 : Int32), .ref qv, .ref qz])), (qx_history, .inl (cN, 8, .inr (.inr (.inr (.inr (fun j => some (qh (x_pi j)))))))), (qn, .inr (1, [.int o_22, .int o_23, .int o_24, .int o_25, .int o_26, .ref qn_low, .ref qn_high, .ref qn_length])), (qn_low, .inl (cI, 18, .inl o_27)), (qn_high, .inl (cI, 18, .inl o_28)), (qn_length, .inl (cI, 18, .inl o_29))] ++ k_hc cI qh qhl qhg qht h_C) H := hP
        have hD : va_D A ([(qx, .inr (5, [.ref qn, .ref qd, .ref qx_history, .int (x_undoable - (1 : Int32)), .ref qx_images, .ref qx_kept, .ref qy, .ref qt, .int x_letterSent, .int (0 : Int32), .ref qv, .ref qz])), (qx_history, .inl (cN, 8, .inr (.inr (.inr (.inr (fun j => some (qh (x_pi j)))))))), (qn, .inr (1, [.int o_22, .int o_23, .int o_24, .int o_25, .int o_26, .ref qn_low, .ref qn_high, .ref qn_length])), (qn_low, .inl (cI, 18, .inl o_27)), (qn_high, .inl (cI, 18, .inl o_28)), (qn_length, .inl (cI, 18, .inl o_29))] ++ k_hc cI qh qhl qhg qht h_C) := hD
        refine lv_aload_n hx hb dX5_undo_50 rfl (lv_at hl 0 rfl) ?_
        refine va_get (D := D) (ci := 5) (v := .int (x_undoable - (1 : Int32))) (C := RX5) (T := TX5) (N := 12) hx hb hu k_iX5 hown hK hP 0 rfl rfl 3 (by decide) (hu _ u_286) (fun _ h9 => h9) rfl dX5_undo_51 ?_
        have hq := Option.some.inj h
        clear h
        obtain ⟨e0, hq0⟩ := Prod.mk.inj hq
        clear hq
        obtain ⟨e1, hq1⟩ := Prod.mk.inj hq0
        clear hq0
        obtain ⟨e2, hq2⟩ := Prod.mk.inj hq1
        clear hq1
        obtain ⟨e3, hq3⟩ := Prod.mk.inj hq2
        clear hq2
        obtain ⟨e4, hq4⟩ := Prod.mk.inj hq3
        clear hq3
        obtain ⟨e5, hq5⟩ := Prod.mk.inj hq4
        clear hq4
        obtain ⟨e6, hq6⟩ := Prod.mk.inj hq5
        clear hq5
        obtain ⟨e7, hq7⟩ := Prod.mk.inj hq6
        clear hq6
        obtain ⟨e8, hq8⟩ := Prod.mk.inj hq7
        clear hq7
        obtain ⟨e9, hq9⟩ := Prod.mk.inj hq8
        clear hq8
        subst e0
        subst e1
        subst e2
        subst e3
        subst e4
        subst e5
        subst e6
        subst e7
        subst e8
        subst e9
        subst hq9
        exact k_retI hx hb hr hlocks hP hD hS dX5_undo_54
      have h := (if_neg sp_78).symm.trans h
      by_cases sp_79 : (x_pi (Int32.toNatClampNeg (x_undoable - (1 : Int32)))) = 3
      · have h := (if_pos sp_79).symm.trans h
        refine W.eq (g2 := F0 m 42 ls [.ref (qh 3), .ref qn]) (by show F0 m _ ls (.ref (qh (x_pi (Int32.toNatClampNeg (x_undoable - (1 : Int32))))) :: _) = _; rw [sp_79]) ?_
        obtain ⟨⟨o_31, o_32, o_33, o_34, o_35, o_36, o_37, o_38⟩, hc_39, h⟩ := ob_bind h
        dsimp only at h
        refine k_callVV (qb := 0) [2, 3, 4, 5, 18, 19, 20, 21] [0, 1, 2, 3] [2, 3, 4, 5] [(qn, .inr (1, [.int o_31, .int o_32, .int o_33, .int o_34, .int o_35, .ref qn_low, .ref qn_high, .ref qn_length])), (qn_low, .inl (cI, 18, .inl o_36)), (qn_high, .inl (cI, 18, .inl o_37)), (qn_length, .inl (cI, 18, .inl o_38))] (As := [.ref (qh 3)]) (rest := []) ⟨hx, hb, hml, hown, hts⟩ hT hZ hA hP hD hS (c_X1_copyFrom l D cI cZ cN aK aV qn qn_low qn_high qn_length (qh 3) (qhl 3) (qhg 3) (qht 3) n_nodes n_links n_room n_alive n_inMap n_low n_high n_length (h_C 3).1 (h_C 3).2.1 (h_C 3).2.2.1 (h_C 3).2.2.2.1 (h_C 3).2.2.2.2.1 (h_C 3).2.2.2.2.2.1 (h_C 3).2.2.2.2.2.2.1 (h_C 3).2.2.2.2.2.2.2 o_31 o_32 o_33 o_34 o_35 o_36 o_37 o_38 hc_39) ⟨callB_of 1 hts (k_good u_335) rfl rfl rfl (hu _ u_46) (hu _ u_332) (by decide +kernel) ⟨Nat.le_of_ble_eq_true rfl, Nat.le_of_ble_eq_true rfl⟩, hu _ u_333, hu _ u_334⟩ rfl rfl rfl (by decide) (by decide) (by decide) rfl rfl rfl rfl hl.1 rfl (Nat.le_of_ble_eq_true rfl) dX5_undo_42 (fun H locs hP hD hS => ?_)
        have hP : va_P D vwCl ([(qx, .inr (5, [.ref qn, .ref qd, .ref qx_history, .int (x_undoable - (1 : Int32)), .ref qx_images, .ref qx_kept, .ref qy, .ref qt, .int x_letterSent, .int x_letterFits, .ref qv, .ref qz])), (qx_history, .inl (cN, 8, .inr (.inr (.inr (.inr (fun j => some (qh (x_pi j)))))))), (qn, .inr (1, [.int o_31, .int o_32, .int o_33, .int o_34, .int o_35, .ref qn_low, .ref qn_high, .ref qn_length])), (qn_low, .inl (cI, 18, .inl o_36)), (qn_high, .inl (cI, 18, .inl o_37)), (qn_length, .inl (cI, 18, .inl o_38))] ++ k_hc cI qh qhl qhg qht h_C) H := hP
        have hD : va_D A ([(qx, .inr (5, [.ref qn, .ref qd, .ref qx_history, .int (x_undoable - (1 : Int32)), .ref qx_images, .ref qx_kept, .ref qy, .ref qt, .int x_letterSent, .int x_letterFits, .ref qv, .ref qz])), (qx_history, .inl (cN, 8, .inr (.inr (.inr (.inr (fun j => some (qh (x_pi j)))))))), (qn, .inr (1, [.int o_31, .int o_32, .int o_33, .int o_34, .int o_35, .ref qn_low, .ref qn_high, .ref qn_length])), (qn_low, .inl (cI, 18, .inl o_36)), (qn_high, .inl (cI, 18, .inl o_37)), (qn_length, .inl (cI, 18, .inl o_38))] ++ k_hc cI qh qhl qhg qht h_C) := hD
        refine lv_aload_n hx hb dX5_undo_45 rfl (lv_at hl 0 rfl) ?_
        refine lv_iconst (v := (0 : Int32)) hx hb dX5_undo_46 (by decide) ?_
        refine va_put (D := D) (ci := 5) (v := .int (0 : Int32)) (ty := .boolean) (C := RX5) (T := TX5) (N := 12) hx hb hu k_iX5 tyX5 tyX5_ok nmX5 hown hK hP hD hS 0 rfl rfl 9 (by decide) (hu _ u_292) (fun _ h9 => h9) rfl (by decide +kernel) rfl rfl (Nat.le_of_ble_eq_true rfl) dX5_undo_47 (fun H locs hP hD hS => ?_)
        have hP : va_P D vwCl ([(qx, .inr (5, [.ref qn, .ref qd, .ref qx_history, .int (x_undoable - (1 : Int32)), .ref qx_images, .ref qx_kept, .ref qy, .ref qt, .int x_letterSent, .int (0 : Int32), .ref qv, .ref qz])), (qx_history, .inl (cN, 8, .inr (.inr (.inr (.inr (fun j => some (qh (x_pi j)))))))), (qn, .inr (1, [.int o_31, .int o_32, .int o_33, .int o_34, .int o_35, .ref qn_low, .ref qn_high, .ref qn_length])), (qn_low, .inl (cI, 18, .inl o_36)), (qn_high, .inl (cI, 18, .inl o_37)), (qn_length, .inl (cI, 18, .inl o_38))] ++ k_hc cI qh qhl qhg qht h_C) H := hP
        have hD : va_D A ([(qx, .inr (5, [.ref qn, .ref qd, .ref qx_history, .int (x_undoable - (1 : Int32)), .ref qx_images, .ref qx_kept, .ref qy, .ref qt, .int x_letterSent, .int (0 : Int32), .ref qv, .ref qz])), (qx_history, .inl (cN, 8, .inr (.inr (.inr (.inr (fun j => some (qh (x_pi j)))))))), (qn, .inr (1, [.int o_31, .int o_32, .int o_33, .int o_34, .int o_35, .ref qn_low, .ref qn_high, .ref qn_length])), (qn_low, .inl (cI, 18, .inl o_36)), (qn_high, .inl (cI, 18, .inl o_37)), (qn_length, .inl (cI, 18, .inl o_38))] ++ k_hc cI qh qhl qhg qht h_C) := hD
        refine lv_aload_n hx hb dX5_undo_50 rfl (lv_at hl 0 rfl) ?_
        refine va_get (D := D) (ci := 5) (v := .int (x_undoable - (1 : Int32))) (C := RX5) (T := TX5) (N := 12) hx hb hu k_iX5 hown hK hP 0 rfl rfl 3 (by decide) (hu _ u_286) (fun _ h9 => h9) rfl dX5_undo_51 ?_
        have hq := Option.some.inj h
        clear h
        obtain ⟨e0, hq0⟩ := Prod.mk.inj hq
        clear hq
        obtain ⟨e1, hq1⟩ := Prod.mk.inj hq0
        clear hq0
        obtain ⟨e2, hq2⟩ := Prod.mk.inj hq1
        clear hq1
        obtain ⟨e3, hq3⟩ := Prod.mk.inj hq2
        clear hq2
        obtain ⟨e4, hq4⟩ := Prod.mk.inj hq3
        clear hq3
        obtain ⟨e5, hq5⟩ := Prod.mk.inj hq4
        clear hq4
        obtain ⟨e6, hq6⟩ := Prod.mk.inj hq5
        clear hq5
        obtain ⟨e7, hq7⟩ := Prod.mk.inj hq6
        clear hq6
        obtain ⟨e8, hq8⟩ := Prod.mk.inj hq7
        clear hq7
        obtain ⟨e9, hq9⟩ := Prod.mk.inj hq8
        clear hq8
        subst e0
        subst e1
        subst e2
        subst e3
        subst e4
        subst e5
        subst e6
        subst e7
        subst e8
        subst e9
        subst hq9
        exact k_retI hx hb hr hlocks hP hD hS dX5_undo_54
      have h := (if_neg sp_79).symm.trans h
      by_cases sp_80 : (x_pi (Int32.toNatClampNeg (x_undoable - (1 : Int32)))) = 4
      · have h := (if_pos sp_80).symm.trans h
        refine W.eq (g2 := F0 m 42 ls [.ref (qh 4), .ref qn]) (by show F0 m _ ls (.ref (qh (x_pi (Int32.toNatClampNeg (x_undoable - (1 : Int32))))) :: _) = _; rw [sp_80]) ?_
        obtain ⟨⟨o_40, o_41, o_42, o_43, o_44, o_45, o_46, o_47⟩, hc_48, h⟩ := ob_bind h
        dsimp only at h
        refine k_callVV (qb := 0) [2, 3, 4, 5, 22, 23, 24, 25] [0, 1, 2, 3] [2, 3, 4, 5] [(qn, .inr (1, [.int o_40, .int o_41, .int o_42, .int o_43, .int o_44, .ref qn_low, .ref qn_high, .ref qn_length])), (qn_low, .inl (cI, 18, .inl o_45)), (qn_high, .inl (cI, 18, .inl o_46)), (qn_length, .inl (cI, 18, .inl o_47))] (As := [.ref (qh 4)]) (rest := []) ⟨hx, hb, hml, hown, hts⟩ hT hZ hA hP hD hS (c_X1_copyFrom l D cI cZ cN aK aV qn qn_low qn_high qn_length (qh 4) (qhl 4) (qhg 4) (qht 4) n_nodes n_links n_room n_alive n_inMap n_low n_high n_length (h_C 4).1 (h_C 4).2.1 (h_C 4).2.2.1 (h_C 4).2.2.2.1 (h_C 4).2.2.2.2.1 (h_C 4).2.2.2.2.2.1 (h_C 4).2.2.2.2.2.2.1 (h_C 4).2.2.2.2.2.2.2 o_40 o_41 o_42 o_43 o_44 o_45 o_46 o_47 hc_48) ⟨callB_of 1 hts (k_good u_335) rfl rfl rfl (hu _ u_46) (hu _ u_332) (by decide +kernel) ⟨Nat.le_of_ble_eq_true rfl, Nat.le_of_ble_eq_true rfl⟩, hu _ u_333, hu _ u_334⟩ rfl rfl rfl (by decide) (by decide) (by decide) rfl rfl rfl rfl hl.1 rfl (Nat.le_of_ble_eq_true rfl) dX5_undo_42 (fun H locs hP hD hS => ?_)
        have hP : va_P D vwCl ([(qx, .inr (5, [.ref qn, .ref qd, .ref qx_history, .int (x_undoable - (1 : Int32)), .ref qx_images, .ref qx_kept, .ref qy, .ref qt, .int x_letterSent, .int x_letterFits, .ref qv, .ref qz])), (qx_history, .inl (cN, 8, .inr (.inr (.inr (.inr (fun j => some (qh (x_pi j)))))))), (qn, .inr (1, [.int o_40, .int o_41, .int o_42, .int o_43, .int o_44, .ref qn_low, .ref qn_high, .ref qn_length])), (qn_low, .inl (cI, 18, .inl o_45)), (qn_high, .inl (cI, 18, .inl o_46)), (qn_length, .inl (cI, 18, .inl o_47))] ++ k_hc cI qh qhl qhg qht h_C) H := hP
        have hD : va_D A ([(qx, .inr (5, [.ref qn, .ref qd, .ref qx_history, .int (x_undoable - (1 : Int32)), .ref qx_images, .ref qx_kept, .ref qy, .ref qt, .int x_letterSent, .int x_letterFits, .ref qv, .ref qz])), (qx_history, .inl (cN, 8, .inr (.inr (.inr (.inr (fun j => some (qh (x_pi j)))))))), (qn, .inr (1, [.int o_40, .int o_41, .int o_42, .int o_43, .int o_44, .ref qn_low, .ref qn_high, .ref qn_length])), (qn_low, .inl (cI, 18, .inl o_45)), (qn_high, .inl (cI, 18, .inl o_46)), (qn_length, .inl (cI, 18, .inl o_47))] ++ k_hc cI qh qhl qhg qht h_C) := hD
        refine lv_aload_n hx hb dX5_undo_45 rfl (lv_at hl 0 rfl) ?_
        refine lv_iconst (v := (0 : Int32)) hx hb dX5_undo_46 (by decide) ?_
        refine va_put (D := D) (ci := 5) (v := .int (0 : Int32)) (ty := .boolean) (C := RX5) (T := TX5) (N := 12) hx hb hu k_iX5 tyX5 tyX5_ok nmX5 hown hK hP hD hS 0 rfl rfl 9 (by decide) (hu _ u_292) (fun _ h9 => h9) rfl (by decide +kernel) rfl rfl (Nat.le_of_ble_eq_true rfl) dX5_undo_47 (fun H locs hP hD hS => ?_)
        have hP : va_P D vwCl ([(qx, .inr (5, [.ref qn, .ref qd, .ref qx_history, .int (x_undoable - (1 : Int32)), .ref qx_images, .ref qx_kept, .ref qy, .ref qt, .int x_letterSent, .int (0 : Int32), .ref qv, .ref qz])), (qx_history, .inl (cN, 8, .inr (.inr (.inr (.inr (fun j => some (qh (x_pi j)))))))), (qn, .inr (1, [.int o_40, .int o_41, .int o_42, .int o_43, .int o_44, .ref qn_low, .ref qn_high, .ref qn_length])), (qn_low, .inl (cI, 18, .inl o_45)), (qn_high, .inl (cI, 18, .inl o_46)), (qn_length, .inl (cI, 18, .inl o_47))] ++ k_hc cI qh qhl qhg qht h_C) H := hP
        have hD : va_D A ([(qx, .inr (5, [.ref qn, .ref qd, .ref qx_history, .int (x_undoable - (1 : Int32)), .ref qx_images, .ref qx_kept, .ref qy, .ref qt, .int x_letterSent, .int (0 : Int32), .ref qv, .ref qz])), (qx_history, .inl (cN, 8, .inr (.inr (.inr (.inr (fun j => some (qh (x_pi j)))))))), (qn, .inr (1, [.int o_40, .int o_41, .int o_42, .int o_43, .int o_44, .ref qn_low, .ref qn_high, .ref qn_length])), (qn_low, .inl (cI, 18, .inl o_45)), (qn_high, .inl (cI, 18, .inl o_46)), (qn_length, .inl (cI, 18, .inl o_47))] ++ k_hc cI qh qhl qhg qht h_C) := hD
        refine lv_aload_n hx hb dX5_undo_50 rfl (lv_at hl 0 rfl) ?_
        refine va_get (D := D) (ci := 5) (v := .int (x_undoable - (1 : Int32))) (C := RX5) (T := TX5) (N := 12) hx hb hu k_iX5 hown hK hP 0 rfl rfl 3 (by decide) (hu _ u_286) (fun _ h9 => h9) rfl dX5_undo_51 ?_
        have hq := Option.some.inj h
        clear h
        obtain ⟨e0, hq0⟩ := Prod.mk.inj hq
        clear hq
        obtain ⟨e1, hq1⟩ := Prod.mk.inj hq0
        clear hq0
        obtain ⟨e2, hq2⟩ := Prod.mk.inj hq1
        clear hq1
        obtain ⟨e3, hq3⟩ := Prod.mk.inj hq2
        clear hq2
        obtain ⟨e4, hq4⟩ := Prod.mk.inj hq3
        clear hq3
        obtain ⟨e5, hq5⟩ := Prod.mk.inj hq4
        clear hq4
        obtain ⟨e6, hq6⟩ := Prod.mk.inj hq5
        clear hq5
        obtain ⟨e7, hq7⟩ := Prod.mk.inj hq6
        clear hq6
        obtain ⟨e8, hq8⟩ := Prod.mk.inj hq7
        clear hq7
        obtain ⟨e9, hq9⟩ := Prod.mk.inj hq8
        clear hq8
        subst e0
        subst e1
        subst e2
        subst e3
        subst e4
        subst e5
        subst e6
        subst e7
        subst e8
        subst e9
        subst hq9
        exact k_retI hx hb hr hlocks hP hD hS dX5_undo_54
      have h := (if_neg sp_80).symm.trans h
      by_cases sp_81 : (x_pi (Int32.toNatClampNeg (x_undoable - (1 : Int32)))) = 5
      · have h := (if_pos sp_81).symm.trans h
        refine W.eq (g2 := F0 m 42 ls [.ref (qh 5), .ref qn]) (by show F0 m _ ls (.ref (qh (x_pi (Int32.toNatClampNeg (x_undoable - (1 : Int32))))) :: _) = _; rw [sp_81]) ?_
        obtain ⟨⟨o_49, o_50, o_51, o_52, o_53, o_54, o_55, o_56⟩, hc_57, h⟩ := ob_bind h
        dsimp only at h
        refine k_callVV (qb := 0) [2, 3, 4, 5, 26, 27, 28, 29] [0, 1, 2, 3] [2, 3, 4, 5] [(qn, .inr (1, [.int o_49, .int o_50, .int o_51, .int o_52, .int o_53, .ref qn_low, .ref qn_high, .ref qn_length])), (qn_low, .inl (cI, 18, .inl o_54)), (qn_high, .inl (cI, 18, .inl o_55)), (qn_length, .inl (cI, 18, .inl o_56))] (As := [.ref (qh 5)]) (rest := []) ⟨hx, hb, hml, hown, hts⟩ hT hZ hA hP hD hS (c_X1_copyFrom l D cI cZ cN aK aV qn qn_low qn_high qn_length (qh 5) (qhl 5) (qhg 5) (qht 5) n_nodes n_links n_room n_alive n_inMap n_low n_high n_length (h_C 5).1 (h_C 5).2.1 (h_C 5).2.2.1 (h_C 5).2.2.2.1 (h_C 5).2.2.2.2.1 (h_C 5).2.2.2.2.2.1 (h_C 5).2.2.2.2.2.2.1 (h_C 5).2.2.2.2.2.2.2 o_49 o_50 o_51 o_52 o_53 o_54 o_55 o_56 hc_57) ⟨callB_of 1 hts (k_good u_335) rfl rfl rfl (hu _ u_46) (hu _ u_332) (by decide +kernel) ⟨Nat.le_of_ble_eq_true rfl, Nat.le_of_ble_eq_true rfl⟩, hu _ u_333, hu _ u_334⟩ rfl rfl rfl (by decide) (by decide) (by decide) rfl rfl rfl rfl hl.1 rfl (Nat.le_of_ble_eq_true rfl) dX5_undo_42 (fun H locs hP hD hS => ?_)
        have hP : va_P D vwCl ([(qx, .inr (5, [.ref qn, .ref qd, .ref qx_history, .int (x_undoable - (1 : Int32)), .ref qx_images, .ref qx_kept, .ref qy, .ref qt, .int x_letterSent, .int x_letterFits, .ref qv, .ref qz])), (qx_history, .inl (cN, 8, .inr (.inr (.inr (.inr (fun j => some (qh (x_pi j)))))))), (qn, .inr (1, [.int o_49, .int o_50, .int o_51, .int o_52, .int o_53, .ref qn_low, .ref qn_high, .ref qn_length])), (qn_low, .inl (cI, 18, .inl o_54)), (qn_high, .inl (cI, 18, .inl o_55)), (qn_length, .inl (cI, 18, .inl o_56))] ++ k_hc cI qh qhl qhg qht h_C) H := hP
        have hD : va_D A ([(qx, .inr (5, [.ref qn, .ref qd, .ref qx_history, .int (x_undoable - (1 : Int32)), .ref qx_images, .ref qx_kept, .ref qy, .ref qt, .int x_letterSent, .int x_letterFits, .ref qv, .ref qz])), (qx_history, .inl (cN, 8, .inr (.inr (.inr (.inr (fun j => some (qh (x_pi j)))))))), (qn, .inr (1, [.int o_49, .int o_50, .int o_51, .int o_52, .int o_53, .ref qn_low, .ref qn_high, .ref qn_length])), (qn_low, .inl (cI, 18, .inl o_54)), (qn_high, .inl (cI, 18, .inl o_55)), (qn_length, .inl (cI, 18, .inl o_56))] ++ k_hc cI qh qhl qhg qht h_C) := hD
        refine lv_aload_n hx hb dX5_undo_45 rfl (lv_at hl 0 rfl) ?_
        refine lv_iconst (v := (0 : Int32)) hx hb dX5_undo_46 (by decide) ?_
        refine va_put (D := D) (ci := 5) (v := .int (0 : Int32)) (ty := .boolean) (C := RX5) (T := TX5) (N := 12) hx hb hu k_iX5 tyX5 tyX5_ok nmX5 hown hK hP hD hS 0 rfl rfl 9 (by decide) (hu _ u_292) (fun _ h9 => h9) rfl (by decide +kernel) rfl rfl (Nat.le_of_ble_eq_true rfl) dX5_undo_47 (fun H locs hP hD hS => ?_)
        have hP : va_P D vwCl ([(qx, .inr (5, [.ref qn, .ref qd, .ref qx_history, .int (x_undoable - (1 : Int32)), .ref qx_images, .ref qx_kept, .ref qy, .ref qt, .int x_letterSent, .int (0 : Int32), .ref qv, .ref qz])), (qx_history, .inl (cN, 8, .inr (.inr (.inr (.inr (fun j => some (qh (x_pi j)))))))), (qn, .inr (1, [.int o_49, .int o_50, .int o_51, .int o_52, .int o_53, .ref qn_low, .ref qn_high, .ref qn_length])), (qn_low, .inl (cI, 18, .inl o_54)), (qn_high, .inl (cI, 18, .inl o_55)), (qn_length, .inl (cI, 18, .inl o_56))] ++ k_hc cI qh qhl qhg qht h_C) H := hP
        have hD : va_D A ([(qx, .inr (5, [.ref qn, .ref qd, .ref qx_history, .int (x_undoable - (1 : Int32)), .ref qx_images, .ref qx_kept, .ref qy, .ref qt, .int x_letterSent, .int (0 : Int32), .ref qv, .ref qz])), (qx_history, .inl (cN, 8, .inr (.inr (.inr (.inr (fun j => some (qh (x_pi j)))))))), (qn, .inr (1, [.int o_49, .int o_50, .int o_51, .int o_52, .int o_53, .ref qn_low, .ref qn_high, .ref qn_length])), (qn_low, .inl (cI, 18, .inl o_54)), (qn_high, .inl (cI, 18, .inl o_55)), (qn_length, .inl (cI, 18, .inl o_56))] ++ k_hc cI qh qhl qhg qht h_C) := hD
        refine lv_aload_n hx hb dX5_undo_50 rfl (lv_at hl 0 rfl) ?_
        refine va_get (D := D) (ci := 5) (v := .int (x_undoable - (1 : Int32))) (C := RX5) (T := TX5) (N := 12) hx hb hu k_iX5 hown hK hP 0 rfl rfl 3 (by decide) (hu _ u_286) (fun _ h9 => h9) rfl dX5_undo_51 ?_
        have hq := Option.some.inj h
        clear h
        obtain ⟨e0, hq0⟩ := Prod.mk.inj hq
        clear hq
        obtain ⟨e1, hq1⟩ := Prod.mk.inj hq0
        clear hq0
        obtain ⟨e2, hq2⟩ := Prod.mk.inj hq1
        clear hq1
        obtain ⟨e3, hq3⟩ := Prod.mk.inj hq2
        clear hq2
        obtain ⟨e4, hq4⟩ := Prod.mk.inj hq3
        clear hq3
        obtain ⟨e5, hq5⟩ := Prod.mk.inj hq4
        clear hq4
        obtain ⟨e6, hq6⟩ := Prod.mk.inj hq5
        clear hq5
        obtain ⟨e7, hq7⟩ := Prod.mk.inj hq6
        clear hq6
        obtain ⟨e8, hq8⟩ := Prod.mk.inj hq7
        clear hq7
        obtain ⟨e9, hq9⟩ := Prod.mk.inj hq8
        clear hq8
        subst e0
        subst e1
        subst e2
        subst e3
        subst e4
        subst e5
        subst e6
        subst e7
        subst e8
        subst e9
        subst hq9
        exact k_retI hx hb hr hlocks hP hD hS dX5_undo_54
      have h := (if_neg sp_81).symm.trans h
      by_cases sp_82 : (x_pi (Int32.toNatClampNeg (x_undoable - (1 : Int32)))) = 6
      · have h := (if_pos sp_82).symm.trans h
        refine W.eq (g2 := F0 m 42 ls [.ref (qh 6), .ref qn]) (by show F0 m _ ls (.ref (qh (x_pi (Int32.toNatClampNeg (x_undoable - (1 : Int32))))) :: _) = _; rw [sp_82]) ?_
        obtain ⟨⟨o_58, o_59, o_60, o_61, o_62, o_63, o_64, o_65⟩, hc_66, h⟩ := ob_bind h
        dsimp only at h
        refine k_callVV (qb := 0) [2, 3, 4, 5, 30, 31, 32, 33] [0, 1, 2, 3] [2, 3, 4, 5] [(qn, .inr (1, [.int o_58, .int o_59, .int o_60, .int o_61, .int o_62, .ref qn_low, .ref qn_high, .ref qn_length])), (qn_low, .inl (cI, 18, .inl o_63)), (qn_high, .inl (cI, 18, .inl o_64)), (qn_length, .inl (cI, 18, .inl o_65))] (As := [.ref (qh 6)]) (rest := []) ⟨hx, hb, hml, hown, hts⟩ hT hZ hA hP hD hS (c_X1_copyFrom l D cI cZ cN aK aV qn qn_low qn_high qn_length (qh 6) (qhl 6) (qhg 6) (qht 6) n_nodes n_links n_room n_alive n_inMap n_low n_high n_length (h_C 6).1 (h_C 6).2.1 (h_C 6).2.2.1 (h_C 6).2.2.2.1 (h_C 6).2.2.2.2.1 (h_C 6).2.2.2.2.2.1 (h_C 6).2.2.2.2.2.2.1 (h_C 6).2.2.2.2.2.2.2 o_58 o_59 o_60 o_61 o_62 o_63 o_64 o_65 hc_66) ⟨callB_of 1 hts (k_good u_335) rfl rfl rfl (hu _ u_46) (hu _ u_332) (by decide +kernel) ⟨Nat.le_of_ble_eq_true rfl, Nat.le_of_ble_eq_true rfl⟩, hu _ u_333, hu _ u_334⟩ rfl rfl rfl (by decide) (by decide) (by decide) rfl rfl rfl rfl hl.1 rfl (Nat.le_of_ble_eq_true rfl) dX5_undo_42 (fun H locs hP hD hS => ?_)
        have hP : va_P D vwCl ([(qx, .inr (5, [.ref qn, .ref qd, .ref qx_history, .int (x_undoable - (1 : Int32)), .ref qx_images, .ref qx_kept, .ref qy, .ref qt, .int x_letterSent, .int x_letterFits, .ref qv, .ref qz])), (qx_history, .inl (cN, 8, .inr (.inr (.inr (.inr (fun j => some (qh (x_pi j)))))))), (qn, .inr (1, [.int o_58, .int o_59, .int o_60, .int o_61, .int o_62, .ref qn_low, .ref qn_high, .ref qn_length])), (qn_low, .inl (cI, 18, .inl o_63)), (qn_high, .inl (cI, 18, .inl o_64)), (qn_length, .inl (cI, 18, .inl o_65))] ++ k_hc cI qh qhl qhg qht h_C) H := hP
        have hD : va_D A ([(qx, .inr (5, [.ref qn, .ref qd, .ref qx_history, .int (x_undoable - (1 : Int32)), .ref qx_images, .ref qx_kept, .ref qy, .ref qt, .int x_letterSent, .int x_letterFits, .ref qv, .ref qz])), (qx_history, .inl (cN, 8, .inr (.inr (.inr (.inr (fun j => some (qh (x_pi j)))))))), (qn, .inr (1, [.int o_58, .int o_59, .int o_60, .int o_61, .int o_62, .ref qn_low, .ref qn_high, .ref qn_length])), (qn_low, .inl (cI, 18, .inl o_63)), (qn_high, .inl (cI, 18, .inl o_64)), (qn_length, .inl (cI, 18, .inl o_65))] ++ k_hc cI qh qhl qhg qht h_C) := hD
        refine lv_aload_n hx hb dX5_undo_45 rfl (lv_at hl 0 rfl) ?_
        refine lv_iconst (v := (0 : Int32)) hx hb dX5_undo_46 (by decide) ?_
        refine va_put (D := D) (ci := 5) (v := .int (0 : Int32)) (ty := .boolean) (C := RX5) (T := TX5) (N := 12) hx hb hu k_iX5 tyX5 tyX5_ok nmX5 hown hK hP hD hS 0 rfl rfl 9 (by decide) (hu _ u_292) (fun _ h9 => h9) rfl (by decide +kernel) rfl rfl (Nat.le_of_ble_eq_true rfl) dX5_undo_47 (fun H locs hP hD hS => ?_)
        have hP : va_P D vwCl ([(qx, .inr (5, [.ref qn, .ref qd, .ref qx_history, .int (x_undoable - (1 : Int32)), .ref qx_images, .ref qx_kept, .ref qy, .ref qt, .int x_letterSent, .int (0 : Int32), .ref qv, .ref qz])), (qx_history, .inl (cN, 8, .inr (.inr (.inr (.inr (fun j => some (qh (x_pi j)))))))), (qn, .inr (1, [.int o_58, .int o_59, .int o_60, .int o_61, .int o_62, .ref qn_low, .ref qn_high, .ref qn_length])), (qn_low, .inl (cI, 18, .inl o_63)), (qn_high, .inl (cI, 18, .inl o_64)), (qn_length, .inl (cI, 18, .inl o_65))] ++ k_hc cI qh qhl qhg qht h_C) H := hP
        have hD : va_D A ([(qx, .inr (5, [.ref qn, .ref qd, .ref qx_history, .int (x_undoable - (1 : Int32)), .ref qx_images, .ref qx_kept, .ref qy, .ref qt, .int x_letterSent, .int (0 : Int32), .ref qv, .ref qz])), (qx_history, .inl (cN, 8, .inr (.inr (.inr (.inr (fun j => some (qh (x_pi j)))))))), (qn, .inr (1, [.int o_58, .int o_59, .int o_60, .int o_61, .int o_62, .ref qn_low, .ref qn_high, .ref qn_length])), (qn_low, .inl (cI, 18, .inl o_63)), (qn_high, .inl (cI, 18, .inl o_64)), (qn_length, .inl (cI, 18, .inl o_65))] ++ k_hc cI qh qhl qhg qht h_C) := hD
        refine lv_aload_n hx hb dX5_undo_50 rfl (lv_at hl 0 rfl) ?_
        refine va_get (D := D) (ci := 5) (v := .int (x_undoable - (1 : Int32))) (C := RX5) (T := TX5) (N := 12) hx hb hu k_iX5 hown hK hP 0 rfl rfl 3 (by decide) (hu _ u_286) (fun _ h9 => h9) rfl dX5_undo_51 ?_
        have hq := Option.some.inj h
        clear h
        obtain ⟨e0, hq0⟩ := Prod.mk.inj hq
        clear hq
        obtain ⟨e1, hq1⟩ := Prod.mk.inj hq0
        clear hq0
        obtain ⟨e2, hq2⟩ := Prod.mk.inj hq1
        clear hq1
        obtain ⟨e3, hq3⟩ := Prod.mk.inj hq2
        clear hq2
        obtain ⟨e4, hq4⟩ := Prod.mk.inj hq3
        clear hq3
        obtain ⟨e5, hq5⟩ := Prod.mk.inj hq4
        clear hq4
        obtain ⟨e6, hq6⟩ := Prod.mk.inj hq5
        clear hq5
        obtain ⟨e7, hq7⟩ := Prod.mk.inj hq6
        clear hq6
        obtain ⟨e8, hq8⟩ := Prod.mk.inj hq7
        clear hq7
        obtain ⟨e9, hq9⟩ := Prod.mk.inj hq8
        clear hq8
        subst e0
        subst e1
        subst e2
        subst e3
        subst e4
        subst e5
        subst e6
        subst e7
        subst e8
        subst e9
        subst hq9
        exact k_retI hx hb hr hlocks hP hD hS dX5_undo_54
      have h := (if_neg sp_82).symm.trans h
      by_cases sp_83 : (x_pi (Int32.toNatClampNeg (x_undoable - (1 : Int32)))) = 7
      · have h := (if_pos sp_83).symm.trans h
        refine W.eq (g2 := F0 m 42 ls [.ref (qh 7), .ref qn]) (by show F0 m _ ls (.ref (qh (x_pi (Int32.toNatClampNeg (x_undoable - (1 : Int32))))) :: _) = _; rw [sp_83]) ?_
        obtain ⟨⟨o_67, o_68, o_69, o_70, o_71, o_72, o_73, o_74⟩, hc_75, h⟩ := ob_bind h
        dsimp only at h
        refine k_callVV (qb := 0) [2, 3, 4, 5, 34, 35, 36, 37] [0, 1, 2, 3] [2, 3, 4, 5] [(qn, .inr (1, [.int o_67, .int o_68, .int o_69, .int o_70, .int o_71, .ref qn_low, .ref qn_high, .ref qn_length])), (qn_low, .inl (cI, 18, .inl o_72)), (qn_high, .inl (cI, 18, .inl o_73)), (qn_length, .inl (cI, 18, .inl o_74))] (As := [.ref (qh 7)]) (rest := []) ⟨hx, hb, hml, hown, hts⟩ hT hZ hA hP hD hS (c_X1_copyFrom l D cI cZ cN aK aV qn qn_low qn_high qn_length (qh 7) (qhl 7) (qhg 7) (qht 7) n_nodes n_links n_room n_alive n_inMap n_low n_high n_length (h_C 7).1 (h_C 7).2.1 (h_C 7).2.2.1 (h_C 7).2.2.2.1 (h_C 7).2.2.2.2.1 (h_C 7).2.2.2.2.2.1 (h_C 7).2.2.2.2.2.2.1 (h_C 7).2.2.2.2.2.2.2 o_67 o_68 o_69 o_70 o_71 o_72 o_73 o_74 hc_75) ⟨callB_of 1 hts (k_good u_335) rfl rfl rfl (hu _ u_46) (hu _ u_332) (by decide +kernel) ⟨Nat.le_of_ble_eq_true rfl, Nat.le_of_ble_eq_true rfl⟩, hu _ u_333, hu _ u_334⟩ rfl rfl rfl (by decide) (by decide) (by decide) rfl rfl rfl rfl hl.1 rfl (Nat.le_of_ble_eq_true rfl) dX5_undo_42 (fun H locs hP hD hS => ?_)
        have hP : va_P D vwCl ([(qx, .inr (5, [.ref qn, .ref qd, .ref qx_history, .int (x_undoable - (1 : Int32)), .ref qx_images, .ref qx_kept, .ref qy, .ref qt, .int x_letterSent, .int x_letterFits, .ref qv, .ref qz])), (qx_history, .inl (cN, 8, .inr (.inr (.inr (.inr (fun j => some (qh (x_pi j)))))))), (qn, .inr (1, [.int o_67, .int o_68, .int o_69, .int o_70, .int o_71, .ref qn_low, .ref qn_high, .ref qn_length])), (qn_low, .inl (cI, 18, .inl o_72)), (qn_high, .inl (cI, 18, .inl o_73)), (qn_length, .inl (cI, 18, .inl o_74))] ++ k_hc cI qh qhl qhg qht h_C) H := hP
        have hD : va_D A ([(qx, .inr (5, [.ref qn, .ref qd, .ref qx_history, .int (x_undoable - (1 : Int32)), .ref qx_images, .ref qx_kept, .ref qy, .ref qt, .int x_letterSent, .int x_letterFits, .ref qv, .ref qz])), (qx_history, .inl (cN, 8, .inr (.inr (.inr (.inr (fun j => some (qh (x_pi j)))))))), (qn, .inr (1, [.int o_67, .int o_68, .int o_69, .int o_70, .int o_71, .ref qn_low, .ref qn_high, .ref qn_length])), (qn_low, .inl (cI, 18, .inl o_72)), (qn_high, .inl (cI, 18, .inl o_73)), (qn_length, .inl (cI, 18, .inl o_74))] ++ k_hc cI qh qhl qhg qht h_C) := hD
        refine lv_aload_n hx hb dX5_undo_45 rfl (lv_at hl 0 rfl) ?_
        refine lv_iconst (v := (0 : Int32)) hx hb dX5_undo_46 (by decide) ?_
        refine va_put (D := D) (ci := 5) (v := .int (0 : Int32)) (ty := .boolean) (C := RX5) (T := TX5) (N := 12) hx hb hu k_iX5 tyX5 tyX5_ok nmX5 hown hK hP hD hS 0 rfl rfl 9 (by decide) (hu _ u_292) (fun _ h9 => h9) rfl (by decide +kernel) rfl rfl (Nat.le_of_ble_eq_true rfl) dX5_undo_47 (fun H locs hP hD hS => ?_)
        have hP : va_P D vwCl ([(qx, .inr (5, [.ref qn, .ref qd, .ref qx_history, .int (x_undoable - (1 : Int32)), .ref qx_images, .ref qx_kept, .ref qy, .ref qt, .int x_letterSent, .int (0 : Int32), .ref qv, .ref qz])), (qx_history, .inl (cN, 8, .inr (.inr (.inr (.inr (fun j => some (qh (x_pi j)))))))), (qn, .inr (1, [.int o_67, .int o_68, .int o_69, .int o_70, .int o_71, .ref qn_low, .ref qn_high, .ref qn_length])), (qn_low, .inl (cI, 18, .inl o_72)), (qn_high, .inl (cI, 18, .inl o_73)), (qn_length, .inl (cI, 18, .inl o_74))] ++ k_hc cI qh qhl qhg qht h_C) H := hP
        have hD : va_D A ([(qx, .inr (5, [.ref qn, .ref qd, .ref qx_history, .int (x_undoable - (1 : Int32)), .ref qx_images, .ref qx_kept, .ref qy, .ref qt, .int x_letterSent, .int (0 : Int32), .ref qv, .ref qz])), (qx_history, .inl (cN, 8, .inr (.inr (.inr (.inr (fun j => some (qh (x_pi j)))))))), (qn, .inr (1, [.int o_67, .int o_68, .int o_69, .int o_70, .int o_71, .ref qn_low, .ref qn_high, .ref qn_length])), (qn_low, .inl (cI, 18, .inl o_72)), (qn_high, .inl (cI, 18, .inl o_73)), (qn_length, .inl (cI, 18, .inl o_74))] ++ k_hc cI qh qhl qhg qht h_C) := hD
        refine lv_aload_n hx hb dX5_undo_50 rfl (lv_at hl 0 rfl) ?_
        refine va_get (D := D) (ci := 5) (v := .int (x_undoable - (1 : Int32))) (C := RX5) (T := TX5) (N := 12) hx hb hu k_iX5 hown hK hP 0 rfl rfl 3 (by decide) (hu _ u_286) (fun _ h9 => h9) rfl dX5_undo_51 ?_
        have hq := Option.some.inj h
        clear h
        obtain ⟨e0, hq0⟩ := Prod.mk.inj hq
        clear hq
        obtain ⟨e1, hq1⟩ := Prod.mk.inj hq0
        clear hq0
        obtain ⟨e2, hq2⟩ := Prod.mk.inj hq1
        clear hq1
        obtain ⟨e3, hq3⟩ := Prod.mk.inj hq2
        clear hq2
        obtain ⟨e4, hq4⟩ := Prod.mk.inj hq3
        clear hq3
        obtain ⟨e5, hq5⟩ := Prod.mk.inj hq4
        clear hq4
        obtain ⟨e6, hq6⟩ := Prod.mk.inj hq5
        clear hq5
        obtain ⟨e7, hq7⟩ := Prod.mk.inj hq6
        clear hq6
        obtain ⟨e8, hq8⟩ := Prod.mk.inj hq7
        clear hq7
        obtain ⟨e9, hq9⟩ := Prod.mk.inj hq8
        clear hq8
        subst e0
        subst e1
        subst e2
        subst e3
        subst e4
        subst e5
        subst e6
        subst e7
        subst e8
        subst e9
        subst hq9
        exact k_retI hx hb hr hlocks hP hD hS dX5_undo_54
      have h := (if_neg sp_83).symm.trans h
      cases h
    · have h := (if_neg cc_2).symm.trans h
      refine lv_bipush (v := (-2 : Int32)) hx hb dX5_undo_16 (by decide) ?_
      have hq := Option.some.inj h
      clear h
      obtain ⟨e0, hq0⟩ := Prod.mk.inj hq
      clear hq
      obtain ⟨e1, hq1⟩ := Prod.mk.inj hq0
      clear hq0
      obtain ⟨e2, hq2⟩ := Prod.mk.inj hq1
      clear hq1
      obtain ⟨e3, hq3⟩ := Prod.mk.inj hq2
      clear hq2
      obtain ⟨e4, hq4⟩ := Prod.mk.inj hq3
      clear hq3
      obtain ⟨e5, hq5⟩ := Prod.mk.inj hq4
      clear hq4
      obtain ⟨e6, hq6⟩ := Prod.mk.inj hq5
      clear hq5
      obtain ⟨e7, hq7⟩ := Prod.mk.inj hq6
      clear hq6
      obtain ⟨e8, hq8⟩ := Prod.mk.inj hq7
      clear hq7
      obtain ⟨e9, hq9⟩ := Prod.mk.inj hq8
      clear hq8
      subst e0
      subst e1
      subst e2
      subst e3
      subst e4
      subst e5
      subst e6
      subst e7
      subst e8
      subst e9
      subst hq9
      exact k_retI hx hb hr hlocks hP hD hS dX5_undo_18
