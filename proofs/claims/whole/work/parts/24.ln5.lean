def f_X5_write (p1 : Int32) (z_codes : (Nat → Int32)) (z_size : Int32) : Option (Int32 × (Nat → Int32) × Int32) :=
  if p1 < (32 : Int32) then
    some ((-1 : Int32), z_codes, z_size)
  else
    if p1 ≤ (126 : Int32) then
      if z_size < (80 : Int32) then
        (f_X3_append p1 z_codes z_size).bind fun ⟨o_4, o_5⟩ =>
        some (o_5, o_4, o_5)
      else
        some ((-3 : Int32), z_codes, z_size)
    else
      some ((-1 : Int32), z_codes, z_size)
set_option maxHeartbeats 4000000 in
set_option maxRecDepth 100000 in
theorem c_X5_write (l : Launch) (D : va_G) (cI cZ cN : ClassId) (aK aV : Nat → Nat)  (qx : Nat) (qx_history : Nat) (qx_images : Nat) (qx_kept : Nat) (qn : Nat) (qd : Nat) (qy : Nat) (qt : Nat) (qv : Nat) (qz : Nat) (qz_codes : Nat) (x_undoable : Int32) (x_letterSent : Int32) (x_letterFits : Int32) (z_codes : (Nat → Int32)) (z_size : Int32) (z_faultAt : Int32) (z_wordStart : Int32) (z_wordEnd : Int32) (z_kind : Int32) (z_first : Int32) (z_second : Int32) (z_digit : Int32) (p1 : Int32) (r : Int32) (z_z_codes : (Nat → Int32)) (z_z_size : Int32) (h : f_X5_write p1 z_codes z_size = some (r, z_z_codes, z_z_size)) : CtI l D cI cZ cN aK aV yX5_write (k_W yX5_write cX5_write 2 (some .int)) { frames := 1, cells := 0, slots := 0, locals := 21 } [.ref qx, .int p1] [(qz, .inr (3, [.ref qz_codes, .int z_size, .int z_faultAt, .int z_wordStart, .int z_wordEnd, .int z_kind, .int z_first, .int z_second, .int z_digit])), (qz_codes, .inl (cI, 80, .inl z_codes)), (qx, .inr (5, [.ref qn, .ref qd, .ref qx_history, .int x_undoable, .ref qx_images, .ref qx_kept, .ref qy, .ref qt, .int x_letterSent, .int x_letterFits, .ref qv, .ref qz]))] r [(qz, .inr (3, [.ref qz_codes, .int z_z_size, .int z_faultAt, .int z_wordStart, .int z_wordEnd, .int z_kind, .int z_first, .int z_second, .int z_digit])), (qz_codes, .inl (cI, 80, .inl z_z_codes)), (qx, .inr (5, [.ref qn, .ref qd, .ref qx_history, .int x_undoable, .ref qx_images, .ref qx_kept, .ref qy, .ref qt, .int x_letterSent, .int x_letterFits, .ref qv, .ref qz]))] := by
  refine k_startI (by decide) (Nat.le_of_ble_eq_true rfl) ?_
  intro p e s m below meth c A ls hx hb hr hml hown hts hlocks hT hZ hA hP hD hS hl
  have hK := hT.1
  have hu : ∀ w ∈ k_U, w.before ([.ref qx, .int p1] : List Value).toArray s = true := fun w h => hts w (List.mem_cons_of_mem _ h)
  have hown : s.vm.findClass RX5 = some m.cls := hown
  have hl : lv_has ls 2 [(0, .ref qx), (1, .int p1)] := hl
  unfold f_X5_write at h
  refine lv_iload_n hx hb dX5_write_0 rfl (lv_at hl 1 rfl) ?_
  refine lv_bipush (v := (32 : Int32)) hx hb dX5_write_1 (by decide) ?_
  refine lv_icmp_lt (tgt := 12) hx hb dX5_write_3 (by decide) (fun cc_1 => ?_) (fun cc_1 => ?_)
  · have h := (if_pos cc_1).symm.trans h
    refine lv_iconst (v := (-1 : Int32)) hx hb dX5_write_12 (by decide) ?_
    have hq := Option.some.inj h
    clear h
    obtain ⟨e0, hq0⟩ := Prod.mk.inj hq
    clear hq
    obtain ⟨e1, hq1⟩ := Prod.mk.inj hq0
    clear hq0
    subst e0
    subst e1
    subst hq1
    exact k_retI hx hb hr hlocks hP hD hS dX5_write_13
  · have h := (if_neg cc_1).symm.trans h
    refine lv_iload_n hx hb dX5_write_6 rfl (lv_at hl 1 rfl) ?_
    refine lv_bipush (v := (126 : Int32)) hx hb dX5_write_7 (by decide) ?_
    refine lv_icmp_le (tgt := 14) hx hb dX5_write_9 (by decide) (fun cc_2 => ?_) (fun cc_2 => ?_)
    · have h := (if_pos cc_2).symm.trans h
      refine lv_aload_n hx hb dX5_write_14 rfl (lv_at hl 0 rfl) ?_
      refine va_get (D := D) (ci := 5) (v := .ref qz) (C := RX5) (T := TX5) (N := 12) hx hb hu k_iX5 hown hK hP 2 rfl rfl 11 (by decide) (hu _ u_294) (fun _ h9 => h9) rfl dX5_write_15 ?_
      refine va_get (D := D) (ci := 3) (v := .int z_size) (C := RX3) (T := TX3) (N := 9) hx hb hu k_iX3 hown hK hP 0 rfl rfl 1 (by decide) (hu _ u_255) (fun _ h9 => h9) rfl dX5_write_18 ?_
      refine lv_bipush (v := (80 : Int32)) hx hb dX5_write_21 (by decide) ?_
      refine lv_icmp_lt (tgt := 29) hx hb dX5_write_23 (by decide) (fun cc_3 => ?_) (fun cc_3 => ?_)
      · have h := (if_pos cc_3).symm.trans h
        refine lv_aload_n hx hb dX5_write_29 rfl (lv_at hl 0 rfl) ?_
        refine va_get (D := D) (ci := 5) (v := .ref qz) (C := RX5) (T := TX5) (N := 12) hx hb hu k_iX5 hown hK hP 2 rfl rfl 11 (by decide) (hu _ u_294) (fun _ h9 => h9) rfl dX5_write_30 ?_
        refine lv_iload_n hx hb dX5_write_33 rfl (lv_at hl 1 rfl) ?_
        obtain ⟨⟨o_4, o_5⟩, hc_6, h⟩ := ob_bind h
        dsimp only at h
        refine k_callVV (qb := 0) [0, 1] [0, 1] [0, 1] [(qz, .inr (3, [.ref qz_codes, .int o_5, .int z_faultAt, .int z_wordStart, .int z_wordEnd, .int z_kind, .int z_first, .int z_second, .int z_digit])), (qz_codes, .inl (cI, 80, .inl o_4))] (As := [.int p1]) (rest := []) ⟨hx, hb, hml, hown, hts⟩ hT hZ hA hP hD hS (c_X3_append l D cI cZ cN aK aV qz qz_codes z_codes z_size z_faultAt z_wordStart z_wordEnd z_kind z_first z_second z_digit p1 o_4 o_5 hc_6) ⟨callB_of 1 hts (k_good u_590) rfl rfl rfl (hu _ u_50) (hu _ u_587) (by decide +kernel) ⟨Nat.le_of_ble_eq_true rfl, Nat.le_of_ble_eq_true rfl⟩, hu _ u_588, hu _ u_589⟩ rfl rfl rfl (by decide) (by decide) (by decide) rfl rfl rfl rfl hl.1 rfl (Nat.le_of_ble_eq_true rfl) dX5_write_34 (fun H locs hP hD hS => ?_)
        have hP : va_P D vwCl [(qz, .inr (3, [.ref qz_codes, .int o_5, .int z_faultAt, .int z_wordStart, .int z_wordEnd, .int z_kind, .int z_first, .int z_second, .int z_digit])), (qz_codes, .inl (cI, 80, .inl o_4)), (qx, .inr (5, [.ref qn, .ref qd, .ref qx_history, .int x_undoable, .ref qx_images, .ref qx_kept, .ref qy, .ref qt, .int x_letterSent, .int x_letterFits, .ref qv, .ref qz]))] H := hP
        have hD : va_D A [(qz, .inr (3, [.ref qz_codes, .int o_5, .int z_faultAt, .int z_wordStart, .int z_wordEnd, .int z_kind, .int z_first, .int z_second, .int z_digit])), (qz_codes, .inl (cI, 80, .inl o_4)), (qx, .inr (5, [.ref qn, .ref qd, .ref qx_history, .int x_undoable, .ref qx_images, .ref qx_kept, .ref qy, .ref qt, .int x_letterSent, .int x_letterFits, .ref qv, .ref qz]))] := hD
        refine lv_aload_n hx hb dX5_write_37 rfl (lv_at hl 0 rfl) ?_
        refine va_get (D := D) (ci := 5) (v := .ref qz) (C := RX5) (T := TX5) (N := 12) hx hb hu k_iX5 hown hK hP 2 rfl rfl 11 (by decide) (hu _ u_294) (fun _ h9 => h9) rfl dX5_write_38 ?_
        refine va_get (D := D) (ci := 3) (v := .int o_5) (C := RX3) (T := TX3) (N := 9) hx hb hu k_iX3 hown hK hP 0 rfl rfl 1 (by decide) (hu _ u_255) (fun _ h9 => h9) rfl dX5_write_41 ?_
        have hq := Option.some.inj h
        clear h
        obtain ⟨e0, hq0⟩ := Prod.mk.inj hq
        clear hq
        obtain ⟨e1, hq1⟩ := Prod.mk.inj hq0
        clear hq0
        subst e0
        subst e1
        subst hq1
        exact k_retI hx hb hr hlocks hP hD hS dX5_write_44
      · have h := (if_neg cc_3).symm.trans h
        refine lv_bipush (v := (-3 : Int32)) hx hb dX5_write_26 (by decide) ?_
        have hq := Option.some.inj h
        clear h
        obtain ⟨e0, hq0⟩ := Prod.mk.inj hq
        clear hq
        obtain ⟨e1, hq1⟩ := Prod.mk.inj hq0
        clear hq0
        subst e0
        subst e1
        subst hq1
        exact k_retI hx hb hr hlocks hP hD hS dX5_write_28
    · have h := (if_neg cc_2).symm.trans h
      refine lv_iconst (v := (-1 : Int32)) hx hb dX5_write_12 (by decide) ?_
      have hq := Option.some.inj h
      clear h
      obtain ⟨e0, hq0⟩ := Prod.mk.inj hq
      clear hq
      obtain ⟨e1, hq1⟩ := Prod.mk.inj hq0
      clear hq0
      subst e0
      subst e1
      subst hq1
      exact k_retI hx hb hr hlocks hP hD hS dX5_write_13
def f_X5_wipe (z_size : Int32) : Int32 × Int32 :=
  (z_size, (0 : Int32))
set_option maxHeartbeats 4000000 in
set_option maxRecDepth 100000 in
theorem c_X5_wipe (l : Launch) (D : va_G) (cI cZ cN : ClassId) (aK aV : Nat → Nat)  (qx : Nat) (qx_history : Nat) (qx_images : Nat) (qx_kept : Nat) (qn : Nat) (qd : Nat) (qy : Nat) (qt : Nat) (qv : Nat) (qz : Nat) (qz_codes : Nat) (x_undoable : Int32) (x_letterSent : Int32) (x_letterFits : Int32) (z_size : Int32) (z_faultAt : Int32) (z_wordStart : Int32) (z_wordEnd : Int32) (z_kind : Int32) (z_first : Int32) (z_second : Int32) (z_digit : Int32) (r : Int32) (z_z_size : Int32) (h : f_X5_wipe z_size = (r, z_z_size)) : CtI l D cI cZ cN aK aV yX5_wipe (k_W yX5_wipe cX5_wipe 2 (some .int)) { frames := 0, cells := 0, slots := 0, locals := 0 } [.ref qx] [(qz, .inr (3, [.ref qz_codes, .int z_size, .int z_faultAt, .int z_wordStart, .int z_wordEnd, .int z_kind, .int z_first, .int z_second, .int z_digit])), (qx, .inr (5, [.ref qn, .ref qd, .ref qx_history, .int x_undoable, .ref qx_images, .ref qx_kept, .ref qy, .ref qt, .int x_letterSent, .int x_letterFits, .ref qv, .ref qz]))] r [(qz, .inr (3, [.ref qz_codes, .int z_z_size, .int z_faultAt, .int z_wordStart, .int z_wordEnd, .int z_kind, .int z_first, .int z_second, .int z_digit])), (qx, .inr (5, [.ref qn, .ref qd, .ref qx_history, .int x_undoable, .ref qx_images, .ref qx_kept, .ref qy, .ref qt, .int x_letterSent, .int x_letterFits, .ref qv, .ref qz]))] := by
  refine k_startI (by decide) (Nat.le_of_ble_eq_true rfl) ?_
  intro p e s m below meth c A ls hx hb hr hml hown hts hlocks hT hZ hA hP hD hS hl
  have hK := hT.1
  have hu : ∀ w ∈ k_U, w.before ([.ref qx] : List Value).toArray s = true := fun w h => hts w (List.mem_cons_of_mem _ h)
  have hown : s.vm.findClass RX5 = some m.cls := hown
  have hl : lv_has ls 2 [(0, .ref qx)] := hl
  unfold f_X5_wipe at h
  refine lv_aload_n hx hb dX5_wipe_0 rfl (lv_at hl 0 rfl) ?_
  refine va_get (D := D) (ci := 5) (v := .ref qz) (C := RX5) (T := TX5) (N := 12) hx hb hu k_iX5 hown hK hP 1 rfl rfl 11 (by decide) (hu _ u_294) (fun _ h9 => h9) rfl dX5_wipe_1 ?_
  refine va_get (D := D) (ci := 3) (v := .int z_size) (C := RX3) (T := TX3) (N := 9) hx hb hu k_iX3 hown hK hP 0 rfl rfl 1 (by decide) (hu _ u_255) (fun _ h9 => h9) rfl dX5_wipe_4 ?_
  refine lv_istore_n (lv' := [(1, .int z_size), (0, .ref qx)]) hx hb dX5_wipe_7 rfl hl (by decide) rfl (fun ls hl => ?_)
  refine lv_aload_n hx hb dX5_wipe_8 rfl (lv_at hl 1 rfl) ?_
  refine va_get (D := D) (ci := 5) (v := .ref qz) (C := RX5) (T := TX5) (N := 12) hx hb hu k_iX5 hown hK hP 1 rfl rfl 11 (by decide) (hu _ u_294) (fun _ h9 => h9) rfl dX5_wipe_9 ?_
  refine lv_iconst (v := (0 : Int32)) hx hb dX5_wipe_12 (by decide) ?_
  refine va_put (D := D) (ci := 3) (v := .int (0 : Int32)) (ty := .int) (C := RX3) (T := TX3) (N := 9) hx hb hu k_iX3 tyX3 tyX3_ok nmX3 hown hK hP hD hS 0 rfl rfl 1 (by decide) (hu _ u_255) (fun _ h9 => h9) rfl (by decide +kernel) rfl rfl (Nat.le_of_ble_eq_true rfl) dX5_wipe_13 (fun H locs hP hD hS => ?_)
  have hP : va_P D vwCl [(qz, .inr (3, [.ref qz_codes, .int (0 : Int32), .int z_faultAt, .int z_wordStart, .int z_wordEnd, .int z_kind, .int z_first, .int z_second, .int z_digit])), (qx, .inr (5, [.ref qn, .ref qd, .ref qx_history, .int x_undoable, .ref qx_images, .ref qx_kept, .ref qy, .ref qt, .int x_letterSent, .int x_letterFits, .ref qv, .ref qz]))] H := hP
  have hD : va_D A [(qz, .inr (3, [.ref qz_codes, .int (0 : Int32), .int z_faultAt, .int z_wordStart, .int z_wordEnd, .int z_kind, .int z_first, .int z_second, .int z_digit])), (qx, .inr (5, [.ref qn, .ref qd, .ref qx_history, .int x_undoable, .ref qx_images, .ref qx_kept, .ref qy, .ref qt, .int x_letterSent, .int x_letterFits, .ref qv, .ref qz]))] := hD
  refine lv_iload_n hx hb dX5_wipe_16 rfl (lv_at hl 0 rfl) ?_
  have hq := h
  clear h
  obtain ⟨e0, hq0⟩ := Prod.mk.inj hq
  clear hq
  subst e0
  subst hq0
  exact k_retI hx hb hr hlocks hP hD hS dX5_wipe_17
def f_X5_fault_b11  : Nat → Int32 → Int32 → (Nat → Int32) → Int32 → Int32 → Int32 → Int32 → Int32 → Int32 → Int32 → Int32 → Option (Int32 × Int32 × Int32 × Int32 × Int32 × Int32 × Int32 × Int32)
  | 0, _, _, _, _, _, _, _, _, _, _, _ => none
  | n + 1, x1, x2, z_codes, z_size, z_faultAt, z_wordStart, z_wordEnd, z_kind, z_first, z_second, z_digit =>
    if (80 : Int32) ≤ x2 then
      some (z_faultAt, z_faultAt, z_wordStart, z_wordEnd, z_kind, z_first, z_second, z_digit)
    else
      if x1 = (0 : Int32) then
        some (z_faultAt, z_faultAt, z_wordStart, z_wordEnd, z_kind, z_first, z_second, z_digit)
      else
        (f_X3_readCommand z_codes z_size z_faultAt z_wordStart z_wordEnd z_kind z_first z_second z_digit).bind fun ⟨r_3, o_4, o_5, o_6, o_7, o_8, o_9, o_10⟩ =>
        (f_X5_fault_b11 n) r_3 (x2 + (1 : Int32)) z_codes z_size o_4 o_5 o_6 o_7 o_8 o_9 o_10
def f_X5_fault (z_codes : (Nat → Int32)) (z_size : Int32) (z_faultAt : Int32) (z_wordStart : Int32) (z_wordEnd : Int32) (z_kind : Int32) (z_first : Int32) (z_second : Int32) (z_digit : Int32) : Option (Int32 × Int32 × Int32 × Int32 × Int32 × Int32 × Int32 × Int32) :=
  f_X5_fault_b11 1000 (1 : Int32) (0 : Int32) z_codes z_size ((f_X3_startReading z_faultAt z_wordStart z_wordEnd).1) ((f_X3_startReading z_faultAt z_wordStart z_wordEnd).2.1) ((f_X3_startReading z_faultAt z_wordStart z_wordEnd).2.2) z_kind z_first z_second z_digit
set_option maxHeartbeats 4000000 in
set_option maxRecDepth 100000 in
theorem c_X5_fault (l : Launch) (D : va_G) (cI cZ cN : ClassId) (aK aV : Nat → Nat)  (qx : Nat) (qx_history : Nat) (qx_images : Nat) (qx_kept : Nat) (qn : Nat) (qd : Nat) (qy : Nat) (qt : Nat) (qv : Nat) (qz : Nat) (qz_codes : Nat) (x_undoable : Int32) (x_letterSent : Int32) (x_letterFits : Int32) (z_codes : (Nat → Int32)) (z_size : Int32) (z_faultAt : Int32) (z_wordStart : Int32) (z_wordEnd : Int32) (z_kind : Int32) (z_first : Int32) (z_second : Int32) (z_digit : Int32) (r : Int32) (z_z_faultAt : Int32) (z_z_wordStart : Int32) (z_z_wordEnd : Int32) (z_z_kind : Int32) (z_z_first : Int32) (z_z_second : Int32) (z_z_digit : Int32) (h : f_X5_fault z_codes z_size z_faultAt z_wordStart z_wordEnd z_kind z_first z_second z_digit = some (r, z_z_faultAt, z_z_wordStart, z_z_wordEnd, z_z_kind, z_z_first, z_z_second, z_z_digit)) : CtI l D cI cZ cN aK aV yX5_fault (k_W yX5_fault cX5_fault 3 (some .int)) { frames := 7, cells := 0, slots := 0, locals := 147 } [.ref qx] [(qz, .inr (3, [.ref qz_codes, .int z_size, .int z_faultAt, .int z_wordStart, .int z_wordEnd, .int z_kind, .int z_first, .int z_second, .int z_digit])), (qz_codes, .inl (cI, 80, .inl z_codes)), (qx, .inr (5, [.ref qn, .ref qd, .ref qx_history, .int x_undoable, .ref qx_images, .ref qx_kept, .ref qy, .ref qt, .int x_letterSent, .int x_letterFits, .ref qv, .ref qz]))] r [(qz, .inr (3, [.ref qz_codes, .int z_size, .int z_z_faultAt, .int z_z_wordStart, .int z_z_wordEnd, .int z_z_kind, .int z_z_first, .int z_z_second, .int z_z_digit])), (qz_codes, .inl (cI, 80, .inl z_codes)), (qx, .inr (5, [.ref qn, .ref qd, .ref qx_history, .int x_undoable, .ref qx_images, .ref qx_kept, .ref qy, .ref qt, .int x_letterSent, .int x_letterFits, .ref qv, .ref qz]))] := by
  refine k_startI (by decide) (Nat.le_of_ble_eq_true rfl) ?_
  intro p e s m below meth c A ls hx hb hr hml hown hts hlocks hT hZ hA hP hD hS hl
  have hK := hT.1
  have hu : ∀ w ∈ k_U, w.before ([.ref qx] : List Value).toArray s = true := fun w h => hts w (List.mem_cons_of_mem _ h)
  have hown : s.vm.findClass RX5 = some m.cls := hown
  have hl : lv_has ls 3 [(0, .ref qx)] := hl
  unfold f_X5_fault at h
  have w11 : ∀ (n11 : Nat) (x1 : Int32) (x2 : Int32) (z_codes : (Nat → Int32)) (z_size : Int32) (z_faultAt : Int32) (z_wordStart : Int32) (z_wordEnd : Int32) (z_kind : Int32) (z_first : Int32) (z_second : Int32) (z_digit : Int32) (H : Heap) (locs : List Loc) (ls : Array Slot), va_P D vwCl [(qz, .inr (3, [.ref qz_codes, .int z_size, .int z_faultAt, .int z_wordStart, .int z_wordEnd, .int z_kind, .int z_first, .int z_second, .int z_digit])), (qz_codes, .inl (cI, 80, .inl z_codes)), (qx, .inr (5, [.ref qn, .ref qd, .ref qx_history, .int x_undoable, .ref qx_images, .ref qx_kept, .ref qy, .ref qt, .int x_letterSent, .int x_letterFits, .ref qv, .ref qz]))] H → va_D A [(qz, .inr (3, [.ref qz_codes, .int z_size, .int z_faultAt, .int z_wordStart, .int z_wordEnd, .int z_kind, .int z_first, .int z_second, .int z_digit])), (qz_codes, .inl (cI, 80, .inl z_codes)), (qx, .inr (5, [.ref qn, .ref qd, .ref qx_history, .int x_undoable, .ref qx_images, .ref qx_kept, .ref qy, .ref qt, .int x_letterSent, .int x_letterFits, .ref qv, .ref qz]))] → va_S A s.heap H locs → lv_has ls 3 [(0, .ref qx), (1, .int x1), (2, .int x2)] → f_X5_fault_b11 n11 x1 x2 z_codes z_size z_faultAt z_wordStart z_wordEnd z_kind z_first z_second z_digit = some (r, z_z_faultAt, z_z_wordStart, z_z_wordEnd, z_z_kind, z_z_first, z_z_second, z_z_digit) → W p l e { frames := 7, cells := 0, slots := 0, locals := 147 } s m ([.ref qx] : List Value).toArray below meth c H locs 0 0 (MQ below (k_QI D r [(qz, .inr (3, [.ref qz_codes, .int z_size, .int z_z_faultAt, .int z_z_wordStart, .int z_z_wordEnd, .int z_z_kind, .int z_z_first, .int z_z_second, .int z_z_digit])), (qz_codes, .inl (cI, 80, .inl z_codes)), (qx, .inr (5, [.ref qn, .ref qd, .ref qx_history, .int x_undoable, .ref qx_images, .ref qx_kept, .ref qy, .ref qt, .int x_letterSent, .int x_letterFits, .ref qv, .ref qz]))] A) ([.ref qx] : List Value).toArray s 0 0 A) (F0 m 11 ls []) := by
    intro n11
    induction n11 with
    | zero =>
      intro x1 x2 z_codes z_size z_faultAt z_wordStart z_wordEnd z_kind z_first z_second z_digit H locs ls hP hD hS hl h
      rw [f_X5_fault_b11] at h
      cases h
    | succ n11 ih11 =>
      intro x1 x2 z_codes z_size z_faultAt z_wordStart z_wordEnd z_kind z_first z_second z_digit H locs ls hP hD hS hl h
      rw [f_X5_fault_b11] at h
      refine lv_iload_n hx hb dX5_fault_11 rfl (lv_at hl 2 rfl) ?_
      refine lv_bipush (v := (80 : Int32)) hx hb dX5_fault_12 (by decide) ?_
      refine lv_icmp_ge (tgt := 35) hx hb dX5_fault_14 (by decide) (fun cc_1 => ?_) (fun cc_1 => ?_)
      · have h := (if_pos cc_1).symm.trans h
        refine lv_aload_n hx hb dX5_fault_35 rfl (lv_at hl 0 rfl) ?_
        refine va_get (D := D) (ci := 5) (v := .ref qz) (C := RX5) (T := TX5) (N := 12) hx hb hu k_iX5 hown hK hP 2 rfl rfl 11 (by decide) (hu _ u_294) (fun _ h9 => h9) rfl dX5_fault_36 ?_
        refine va_get (D := D) (ci := 3) (v := .int z_faultAt) (C := RX3) (T := TX3) (N := 9) hx hb hu k_iX3 hown hK hP 0 rfl rfl 2 (by decide) (hu _ u_257) (fun _ h9 => h9) rfl dX5_fault_39 ?_
        have hq := Option.some.inj h
        clear h
        obtain ⟨e0, hq0⟩ := Prod.mk.inj hq
        clear hq
        obtain ⟨e1, hq1⟩ := Prod.mk.inj hq0
        clear hq0
        obtain ⟨e2, hq2⟩ := Prod.mk.inj hq1
        clear hq1
        obtain ⟨e3, hq3⟩ := Prod.mk.inj hq2
        clear hq2
        obtain ⟨e4, hq4⟩ := Prod.mk.inj hq3
        clear hq3
        obtain ⟨e5, hq5⟩ := Prod.mk.inj hq4
        clear hq4
        obtain ⟨e6, hq6⟩ := Prod.mk.inj hq5
        clear hq5
        subst e0
        subst e1
        subst e2
        subst e3
        subst e4
        subst e5
        subst e6
        subst hq6
        exact k_retI hx hb hr hlocks hP hD hS dX5_fault_42
      · have h := (if_neg cc_1).symm.trans h
        refine lv_iload_n hx hb dX5_fault_17 rfl (lv_at hl 1 rfl) ?_
        refine lv_if_eq (tgt := 35) hx hb dX5_fault_18 (by decide) (fun cc_2 => ?_) (fun cc_2 => ?_)
        · have h := (if_pos cc_2).symm.trans h
          refine lv_aload_n hx hb dX5_fault_35 rfl (lv_at hl 0 rfl) ?_
          refine va_get (D := D) (ci := 5) (v := .ref qz) (C := RX5) (T := TX5) (N := 12) hx hb hu k_iX5 hown hK hP 2 rfl rfl 11 (by decide) (hu _ u_294) (fun _ h9 => h9) rfl dX5_fault_36 ?_
          refine va_get (D := D) (ci := 3) (v := .int z_faultAt) (C := RX3) (T := TX3) (N := 9) hx hb hu k_iX3 hown hK hP 0 rfl rfl 2 (by decide) (hu _ u_257) (fun _ h9 => h9) rfl dX5_fault_39 ?_
          have hq := Option.some.inj h
          clear h
          obtain ⟨e0, hq0⟩ := Prod.mk.inj hq
          clear hq
          obtain ⟨e1, hq1⟩ := Prod.mk.inj hq0
          clear hq0
          obtain ⟨e2, hq2⟩ := Prod.mk.inj hq1
          clear hq1
          obtain ⟨e3, hq3⟩ := Prod.mk.inj hq2
          clear hq2
          obtain ⟨e4, hq4⟩ := Prod.mk.inj hq3
          clear hq3
          obtain ⟨e5, hq5⟩ := Prod.mk.inj hq4
          clear hq4
          obtain ⟨e6, hq6⟩ := Prod.mk.inj hq5
          clear hq5
          subst e0
          subst e1
          subst e2
          subst e3
          subst e4
          subst e5
          subst e6
          subst hq6
          exact k_retI hx hb hr hlocks hP hD hS dX5_fault_42
        · have h := (if_neg cc_2).symm.trans h
          refine lv_aload_n hx hb dX5_fault_21 rfl (lv_at hl 0 rfl) ?_
          refine va_get (D := D) (ci := 5) (v := .ref qz) (C := RX5) (T := TX5) (N := 12) hx hb hu k_iX5 hown hK hP 2 rfl rfl 11 (by decide) (hu _ u_294) (fun _ h9 => h9) rfl dX5_fault_22 ?_
          obtain ⟨⟨r_3, o_4, o_5, o_6, o_7, o_8, o_9, o_10⟩, hc_11, h⟩ := ob_bind h
          dsimp only at h
          refine k_callVI (qb := 0) [0, 1] [0] [0] [(qz, .inr (3, [.ref qz_codes, .int z_size, .int o_4, .int o_5, .int o_6, .int o_7, .int o_8, .int o_9, .int o_10]))] (As := []) (rest := []) ⟨hx, hb, hml, hown, hts⟩ hT hZ hA hP hD hS (c_X3_readCommand l D cI cZ cN aK aV qz qz_codes z_codes z_size z_faultAt z_wordStart z_wordEnd z_kind z_first z_second z_digit r_3 o_4 o_5 o_6 o_7 o_8 o_9 o_10 hc_11) ⟨callB_of 0 hts (k_good u_606) rfl rfl rfl (hu _ u_50) (hu _ u_603) (by decide +kernel) ⟨Nat.le_of_ble_eq_true rfl, Nat.le_of_ble_eq_true rfl⟩, hu _ u_604, hu _ u_605⟩ rfl rfl rfl (by decide) (by decide) (by decide) rfl rfl rfl rfl hl.1 rfl (Nat.le_of_ble_eq_true rfl) dX5_fault_25 (fun H locs hP hD hS => ?_)
          have hP : va_P D vwCl [(qz, .inr (3, [.ref qz_codes, .int z_size, .int o_4, .int o_5, .int o_6, .int o_7, .int o_8, .int o_9, .int o_10])), (qz_codes, .inl (cI, 80, .inl z_codes)), (qx, .inr (5, [.ref qn, .ref qd, .ref qx_history, .int x_undoable, .ref qx_images, .ref qx_kept, .ref qy, .ref qt, .int x_letterSent, .int x_letterFits, .ref qv, .ref qz]))] H := hP
          have hD : va_D A [(qz, .inr (3, [.ref qz_codes, .int z_size, .int o_4, .int o_5, .int o_6, .int o_7, .int o_8, .int o_9, .int o_10])), (qz_codes, .inl (cI, 80, .inl z_codes)), (qx, .inr (5, [.ref qn, .ref qd, .ref qx_history, .int x_undoable, .ref qx_images, .ref qx_kept, .ref qy, .ref qt, .int x_letterSent, .int x_letterFits, .ref qv, .ref qz]))] := hD
          refine lv_istore_n (lv' := [(1, .int r_3), (0, .ref qx), (2, .int x2)]) hx hb dX5_fault_28 rfl hl (by decide) rfl (fun ls hl => ?_)
          refine lv_iinc (v := (x2 + (1 : Int32))) (lv' := [(2, .int (x2 + (1 : Int32))), (1, .int r_3), (0, .ref qx)]) hx hb dX5_fault_29 hl (k := 2) rfl rfl (by decide) rfl (fun ls hl => ?_)
          refine lv_goto (tgt := 11) hx hb dX5_fault_32 (by decide) ?_
          exact ih11 r_3 (x2 + (1 : Int32)) z_codes z_size o_4 o_5 o_6 o_7 o_8 o_9 o_10 _ _ _ hP hD hS (lv_sub hl [2, 1, 0] rfl) h
  refine lv_aload_n hx hb dX5_fault_0 rfl (lv_at hl 0 rfl) ?_
  refine va_get (D := D) (ci := 5) (v := .ref qz) (C := RX5) (T := TX5) (N := 12) hx hb hu k_iX5 hown hK hP 2 rfl rfl 11 (by decide) (hu _ u_294) (fun _ h9 => h9) rfl dX5_fault_1 ?_
  refine k_callVV (qb := 0) [0] [0] [0] [(qz, .inr (3, [.ref qz_codes, .int z_size, .int ((f_X3_startReading z_faultAt z_wordStart z_wordEnd).1), .int ((f_X3_startReading z_faultAt z_wordStart z_wordEnd).2.1), .int ((f_X3_startReading z_faultAt z_wordStart z_wordEnd).2.2), .int z_kind, .int z_first, .int z_second, .int z_digit]))] (As := []) (rest := []) ⟨hx, hb, hml, hown, hts⟩ hT hZ hA hP hD hS (c_X3_startReading l D cI cZ cN aK aV qz qz_codes z_size z_faultAt z_wordStart z_wordEnd z_kind z_first z_second z_digit _ _ _ rfl) ⟨callB_of 0 hts (k_good u_602) rfl rfl rfl (hu _ u_50) (hu _ u_599) (by decide +kernel) ⟨Nat.le_of_ble_eq_true rfl, Nat.le_of_ble_eq_true rfl⟩, hu _ u_600, hu _ u_601⟩ rfl rfl rfl (by decide) (by decide) (by decide) rfl rfl rfl rfl hl.1 rfl (Nat.le_of_ble_eq_true rfl) dX5_fault_4 (fun H locs hP hD hS => ?_)
  have hP : va_P D vwCl [(qz, .inr (3, [.ref qz_codes, .int z_size, .int ((f_X3_startReading z_faultAt z_wordStart z_wordEnd).1), .int ((f_X3_startReading z_faultAt z_wordStart z_wordEnd).2.1), .int ((f_X3_startReading z_faultAt z_wordStart z_wordEnd).2.2), .int z_kind, .int z_first, .int z_second, .int z_digit])), (qz_codes, .inl (cI, 80, .inl z_codes)), (qx, .inr (5, [.ref qn, .ref qd, .ref qx_history, .int x_undoable, .ref qx_images, .ref qx_kept, .ref qy, .ref qt, .int x_letterSent, .int x_letterFits, .ref qv, .ref qz]))] H := hP
  have hD : va_D A [(qz, .inr (3, [.ref qz_codes, .int z_size, .int ((f_X3_startReading z_faultAt z_wordStart z_wordEnd).1), .int ((f_X3_startReading z_faultAt z_wordStart z_wordEnd).2.1), .int ((f_X3_startReading z_faultAt z_wordStart z_wordEnd).2.2), .int z_kind, .int z_first, .int z_second, .int z_digit])), (qz_codes, .inl (cI, 80, .inl z_codes)), (qx, .inr (5, [.ref qn, .ref qd, .ref qx_history, .int x_undoable, .ref qx_images, .ref qx_kept, .ref qy, .ref qt, .int x_letterSent, .int x_letterFits, .ref qv, .ref qz]))] := hD
  refine lv_iconst (v := (1 : Int32)) hx hb dX5_fault_7 (by decide) ?_
  refine lv_istore_n (lv' := [(1, .int (1 : Int32)), (0, .ref qx)]) hx hb dX5_fault_8 rfl hl (by decide) rfl (fun ls hl => ?_)
  refine lv_iconst (v := (0 : Int32)) hx hb dX5_fault_9 (by decide) ?_
  refine lv_istore_n (lv' := [(2, .int (0 : Int32)), (1, .int (1 : Int32)), (0, .ref qx)]) hx hb dX5_fault_10 rfl hl (by decide) rfl (fun ls hl => ?_)
  exact w11 1000 (1 : Int32) (0 : Int32) z_codes z_size ((f_X3_startReading z_faultAt z_wordStart z_wordEnd).1) ((f_X3_startReading z_faultAt z_wordStart z_wordEnd).2.1) ((f_X3_startReading z_faultAt z_wordStart z_wordEnd).2.2) z_kind z_first z_second z_digit _ _ _ hP hD hS (lv_sub hl [2, 1, 0] rfl) h
def f_X5_execute_b73  (x1 : Int32) (x_pi : (Nat → Nat)) (x_undoable : Int32) (x_letterFits : Int32) (n_nodes : Int32) (n_links : Int32) (n_room : Int32) (n_alive : Int32) (n_inMap : Int32) (n_low : (Nat → Int32)) (n_high : (Nat → Int32)) (n_length : (Nat → Int32)) (d_nodes : Int32) (d_links : Int32) (d_room : Int32) (d_alive : Int32) (d_inMap : Int32) (d_low : (Nat → Int32)) (d_high : (Nat → Int32)) (d_length : (Nat → Int32)) (z_codes : (Nat → Int32)) (z_size : Int32) (z_faultAt : Int32) (z_wordStart : Int32) (z_wordEnd : Int32) (z_kind : Int32) (z_first : Int32) (z_second : Int32) (z_digit : Int32) (h_C : (Nat → NV)) : Option (Int32 × (Nat → Nat) × Int32 × Int32 × Int32 × Int32 × Int32 × Int32 × Int32 × (Nat → Int32) × (Nat → Int32) × (Nat → Int32) × Int32 × Int32 × Int32 × Int32 × Int32 × (Nat → Int32) × (Nat → Int32) × (Nat → Int32) × Int32 × Int32 × Int32 × Int32 × Int32 × Int32 × Int32 × (Nat → NV)) :=
  (f_X5_recordState x_pi x_undoable n_nodes n_links n_room n_alive n_inMap n_low n_high n_length h_C).bind fun ⟨o_41, o_42, o_43⟩ =>
  (f_X1_copyFrom n_nodes n_links n_room n_alive n_inMap n_low n_high n_length d_nodes d_links d_room d_alive d_inMap d_low d_high d_length).bind fun ⟨o_45, o_46, o_47, o_48, o_49, o_50, o_51, o_52⟩ =>
  some (x1, o_41, o_42, (0 : Int32), o_45, o_46, o_47, o_48, o_49, o_50, o_51, o_52, d_nodes, d_links, d_room, d_alive, d_inMap, d_low, d_high, d_length, z_faultAt, z_wordStart, z_wordEnd, z_kind, z_first, z_second, z_digit, o_43)
def f_X5_execute_b32  : Nat → Int32 → (Nat → Nat) → Int32 → Int32 → Int32 → Int32 → Int32 → Int32 → Int32 → (Nat → Int32) → (Nat → Int32) → (Nat → Int32) → Int32 → Int32 → Int32 → Int32 → Int32 → (Nat → Int32) → (Nat → Int32) → (Nat → Int32) → (Nat → Int32) → Int32 → Int32 → Int32 → Int32 → Int32 → Int32 → Int32 → Int32 → (Nat → NV) → Option (Int32 × (Nat → Nat) × Int32 × Int32 × Int32 × Int32 × Int32 × Int32 × Int32 × (Nat → Int32) × (Nat → Int32) × (Nat → Int32) × Int32 × Int32 × Int32 × Int32 × Int32 × (Nat → Int32) × (Nat → Int32) × (Nat → Int32) × Int32 × Int32 × Int32 × Int32 × Int32 × Int32 × Int32 × (Nat → NV))
  | 0, _, _, _, _, _, _, _, _, _, _, _, _, _, _, _, _, _, _, _, _, _, _, _, _, _, _, _, _, _, _ => none
  | n + 1, x1, x_pi, x_undoable, x_letterFits, n_nodes, n_links, n_room, n_alive, n_inMap, n_low, n_high, n_length, d_nodes, d_links, d_room, d_alive, d_inMap, d_low, d_high, d_length, z_codes, z_size, z_faultAt, z_wordStart, z_wordEnd, z_kind, z_first, z_second, z_digit, h_C =>
    if (80 : Int32) ≤ x1 then
      f_X5_execute_b73  x1 x_pi x_undoable x_letterFits n_nodes n_links n_room n_alive n_inMap n_low n_high n_length d_nodes d_links d_room d_alive d_inMap d_low d_high d_length z_codes z_size z_faultAt z_wordStart z_wordEnd z_kind z_first z_second z_digit h_C
    else
      (f_X3_readCommand z_codes z_size z_faultAt z_wordStart z_wordEnd z_kind z_first z_second z_digit).bind fun ⟨r_21, o_22, o_23, o_24, o_25, o_26, o_27, o_28⟩ =>
      if r_21 = (0 : Int32) then
        f_X5_execute_b73  x1 x_pi x_undoable x_letterFits n_nodes n_links n_room n_alive n_inMap n_low n_high n_length d_nodes d_links d_room d_alive d_inMap d_low d_high d_length z_codes z_size o_22 o_23 o_24 o_25 o_26 o_27 o_28 h_C
      else
        (f_X3_carryOut o_25 o_26 o_27 o_28 d_nodes d_links d_alive d_inMap d_low d_high d_length).bind fun ⟨r_31, o_32, o_33, o_34, o_35, o_36, o_37, o_38⟩ =>
        if r_31 = (0 : Int32) then
          some (((-100 : Int32) - x1), x_pi, x_undoable, x_letterFits, n_nodes, n_links, n_room, n_alive, n_inMap, n_low, n_high, n_length, o_32, o_33, d_room, o_34, o_35, o_36, o_37, o_38, o_22, o_23, o_24, o_25, o_26, o_27, o_28, h_C)
        else
          (f_X5_execute_b32 n) (x1 + (1 : Int32)) x_pi x_undoable x_letterFits n_nodes n_links n_room n_alive n_inMap n_low n_high n_length o_32 o_33 d_room o_34 o_35 o_36 o_37 o_38 z_codes z_size o_22 o_23 o_24 o_25 o_26 o_27 o_28 h_C
def f_X5_execute (x_pi : (Nat → Nat)) (x_undoable : Int32) (x_letterFits : Int32) (n_nodes : Int32) (n_links : Int32) (n_room : Int32) (n_alive : Int32) (n_inMap : Int32) (n_low : (Nat → Int32)) (n_high : (Nat → Int32)) (n_length : (Nat → Int32)) (d_nodes : Int32) (d_links : Int32) (d_room : Int32) (d_alive : Int32) (d_inMap : Int32) (d_low : (Nat → Int32)) (d_high : (Nat → Int32)) (d_length : (Nat → Int32)) (z_codes : (Nat → Int32)) (z_size : Int32) (z_faultAt : Int32) (z_wordStart : Int32) (z_wordEnd : Int32) (z_kind : Int32) (z_first : Int32) (z_second : Int32) (z_digit : Int32) (h_C : (Nat → NV)) : Option (Int32 × (Nat → Nat) × Int32 × Int32 × Int32 × Int32 × Int32 × Int32 × Int32 × (Nat → Int32) × (Nat → Int32) × (Nat → Int32) × Int32 × Int32 × Int32 × Int32 × Int32 × (Nat → Int32) × (Nat → Int32) × (Nat → Int32) × Int32 × Int32 × Int32 × Int32 × Int32 × Int32 × Int32 × (Nat → NV)) :=
  (f_X5_fault z_codes z_size z_faultAt z_wordStart z_wordEnd z_kind z_first z_second z_digit).bind fun ⟨r_1, o_2, o_3, o_4, o_5, o_6, o_7, o_8⟩ =>
  if r_1 = (-9 : Int32) then
    (f_X1_copyFrom d_nodes d_links d_room d_alive d_inMap d_low d_high d_length n_nodes n_links n_room n_alive n_inMap n_low n_high n_length).bind fun ⟨o_11, o_12, o_13, o_14, o_15, o_16, o_17, o_18⟩ =>
    f_X5_execute_b32 1000 (0 : Int32) x_pi x_undoable x_letterFits n_nodes n_links n_room n_alive n_inMap n_low n_high n_length o_11 o_12 o_13 o_14 o_15 o_16 o_17 o_18 z_codes z_size ((f_X3_startReading o_2 o_3 o_4).1) ((f_X3_startReading o_2 o_3 o_4).2.1) ((f_X3_startReading o_2 o_3 o_4).2.2) o_5 o_6 o_7 o_8 h_C
  else
    some ((-2 : Int32), x_pi, x_undoable, x_letterFits, n_nodes, n_links, n_room, n_alive, n_inMap, n_low, n_high, n_length, d_nodes, d_links, d_room, d_alive, d_inMap, d_low, d_high, d_length, o_2, o_3, o_4, o_5, o_6, o_7, o_8, h_C)
set_option maxHeartbeats 4000000 in
set_option maxRecDepth 100000 in
theorem c_X5_execute (l : Launch) (D : va_G) (cI cZ cN : ClassId) (aK aV : Nat → Nat)  (qx : Nat) (qx_history : Nat) (qx_images : Nat) (qx_kept : Nat) (qn : Nat) (qn_low : Nat) (qn_high : Nat) (qn_length : Nat) (qd : Nat) (qd_low : Nat) (qd_high : Nat) (qd_length : Nat) (qy : Nat) (qt : Nat) (qv : Nat) (qz : Nat) (qz_codes : Nat) (qh : Nat → Nat) (qhl : Nat → Nat) (qhg : Nat → Nat) (qht : Nat → Nat) (x_pi : (Nat → Nat)) (x_undoable : Int32) (x_letterSent : Int32) (x_letterFits : Int32) (n_nodes : Int32) (n_links : Int32) (n_room : Int32) (n_alive : Int32) (n_inMap : Int32) (n_low : (Nat → Int32)) (n_high : (Nat → Int32)) (n_length : (Nat → Int32)) (d_nodes : Int32) (d_links : Int32) (d_room : Int32) (d_alive : Int32) (d_inMap : Int32) (d_low : (Nat → Int32)) (d_high : (Nat → Int32)) (d_length : (Nat → Int32)) (z_codes : (Nat → Int32)) (z_size : Int32) (z_faultAt : Int32) (z_wordStart : Int32) (z_wordEnd : Int32) (z_kind : Int32) (z_first : Int32) (z_second : Int32) (z_digit : Int32) (h_C : (Nat → NV)) (r : Int32) (z_x_pi : (Nat → Nat)) (z_x_undoable : Int32) (z_x_letterFits : Int32) (z_n_nodes : Int32) (z_n_links : Int32) (z_n_room : Int32) (z_n_alive : Int32) (z_n_inMap : Int32) (z_n_low : (Nat → Int32)) (z_n_high : (Nat → Int32)) (z_n_length : (Nat → Int32)) (z_d_nodes : Int32) (z_d_links : Int32) (z_d_room : Int32) (z_d_alive : Int32) (z_d_inMap : Int32) (z_d_low : (Nat → Int32)) (z_d_high : (Nat → Int32)) (z_d_length : (Nat → Int32)) (z_z_faultAt : Int32) (z_z_wordStart : Int32) (z_z_wordEnd : Int32) (z_z_kind : Int32) (z_z_first : Int32) (z_z_second : Int32) (z_z_digit : Int32) (z_h_C : (Nat → NV)) (h : f_X5_execute x_pi x_undoable x_letterFits n_nodes n_links n_room n_alive n_inMap n_low n_high n_length d_nodes d_links d_room d_alive d_inMap d_low d_high d_length z_codes z_size z_faultAt z_wordStart z_wordEnd z_kind z_first z_second z_digit h_C = some (r, z_x_pi, z_x_undoable, z_x_letterFits, z_n_nodes, z_n_links, z_n_room, z_n_alive, z_n_inMap, z_n_low, z_n_high, z_n_length, z_d_nodes, z_d_links, z_d_room, z_d_alive, z_d_inMap, z_d_low, z_d_high, z_d_length, z_z_faultAt, z_z_wordStart, z_z_wordEnd, z_z_kind, z_z_first, z_z_second, z_z_digit, z_h_C)) : CtI l D cI cZ cN aK aV yX5_execute (k_W yX5_execute cX5_execute 2 (some .int)) { frames := 8, cells := 0, slots := 0, locals := 169 } [.ref qx] ([(qd, .inr (1, [.int d_nodes, .int d_links, .int d_room, .int d_alive, .int d_inMap, .ref qd_low, .ref qd_high, .ref qd_length])), (qd_low, .inl (cI, 18, .inl d_low)), (qd_high, .inl (cI, 18, .inl d_high)), (qd_length, .inl (cI, 18, .inl d_length)), (qz, .inr (3, [.ref qz_codes, .int z_size, .int z_faultAt, .int z_wordStart, .int z_wordEnd, .int z_kind, .int z_first, .int z_second, .int z_digit])), (qz_codes, .inl (cI, 80, .inl z_codes)), (qx, .inr (5, [.ref qn, .ref qd, .ref qx_history, .int x_undoable, .ref qx_images, .ref qx_kept, .ref qy, .ref qt, .int x_letterSent, .int x_letterFits, .ref qv, .ref qz])), (qx_history, .inl (cN, 8, .inr (.inr (.inr (.inr (fun j => some (qh (x_pi j)))))))), (qn, .inr (1, [.int n_nodes, .int n_links, .int n_room, .int n_alive, .int n_inMap, .ref qn_low, .ref qn_high, .ref qn_length])), (qn_low, .inl (cI, 18, .inl n_low)), (qn_high, .inl (cI, 18, .inl n_high)), (qn_length, .inl (cI, 18, .inl n_length))] ++ k_hc cI qh qhl qhg qht h_C) r ([(qd, .inr (1, [.int z_d_nodes, .int z_d_links, .int z_d_room, .int z_d_alive, .int z_d_inMap, .ref qd_low, .ref qd_high, .ref qd_length])), (qd_low, .inl (cI, 18, .inl z_d_low)), (qd_high, .inl (cI, 18, .inl z_d_high)), (qd_length, .inl (cI, 18, .inl z_d_length)), (qz, .inr (3, [.ref qz_codes, .int z_size, .int z_z_faultAt, .int z_z_wordStart, .int z_z_wordEnd, .int z_z_kind, .int z_z_first, .int z_z_second, .int z_z_digit])), (qz_codes, .inl (cI, 80, .inl z_codes)), (qx, .inr (5, [.ref qn, .ref qd, .ref qx_history, .int z_x_undoable, .ref qx_images, .ref qx_kept, .ref qy, .ref qt, .int x_letterSent, .int z_x_letterFits, .ref qv, .ref qz])), (qx_history, .inl (cN, 8, .inr (.inr (.inr (.inr (fun j => some (qh (z_x_pi j)))))))), (qn, .inr (1, [.int z_n_nodes, .int z_n_links, .int z_n_room, .int z_n_alive, .int z_n_inMap, .ref qn_low, .ref qn_high, .ref qn_length])), (qn_low, .inl (cI, 18, .inl z_n_low)), (qn_high, .inl (cI, 18, .inl z_n_high)), (qn_length, .inl (cI, 18, .inl z_n_length))] ++ k_hc cI qh qhl qhg qht z_h_C) := by
  refine k_startI (by decide) (Nat.le_of_ble_eq_true rfl) ?_
  intro p e s m below meth c A ls hx hb hr hml hown hts hlocks hT hZ hA hP hD hS hl
  have hK := hT.1
  have hu : ∀ w ∈ k_U, w.before ([.ref qx] : List Value).toArray s = true := fun w h => hts w (List.mem_cons_of_mem _ h)
  have hown : s.vm.findClass RX5 = some m.cls := hown
  have hl : lv_has ls 2 [(0, .ref qx)] := hl
  unfold f_X5_execute at h
  have w32 : ∀ (n32 : Nat) (x1 : Int32) (x_pi : (Nat → Nat)) (x_undoable : Int32) (x_letterFits : Int32) (n_nodes : Int32) (n_links : Int32) (n_room : Int32) (n_alive : Int32) (n_inMap : Int32) (n_low : (Nat → Int32)) (n_high : (Nat → Int32)) (n_length : (Nat → Int32)) (d_nodes : Int32) (d_links : Int32) (d_room : Int32) (d_alive : Int32) (d_inMap : Int32) (d_low : (Nat → Int32)) (d_high : (Nat → Int32)) (d_length : (Nat → Int32)) (z_codes : (Nat → Int32)) (z_size : Int32) (z_faultAt : Int32) (z_wordStart : Int32) (z_wordEnd : Int32) (z_kind : Int32) (z_first : Int32) (z_second : Int32) (z_digit : Int32) (h_C : (Nat → NV)) (H : Heap) (locs : List Loc) (ls : Array Slot), va_P D vwCl ([(qd, .inr (1, [.int d_nodes, .int d_links, .int d_room, .int d_alive, .int d_inMap, .ref qd_low, .ref qd_high, .ref qd_length])), (qd_low, .inl (cI, 18, .inl d_low)), (qd_high, .inl (cI, 18, .inl d_high)), (qd_length, .inl (cI, 18, .inl d_length)), (qz, .inr (3, [.ref qz_codes, .int z_size, .int z_faultAt, .int z_wordStart, .int z_wordEnd, .int z_kind, .int z_first, .int z_second, .int z_digit])), (qz_codes, .inl (cI, 80, .inl z_codes)), (qx, .inr (5, [.ref qn, .ref qd, .ref qx_history, .int x_undoable, .ref qx_images, .ref qx_kept, .ref qy, .ref qt, .int x_letterSent, .int x_letterFits, .ref qv, .ref qz])), (qx_history, .inl (cN, 8, .inr (.inr (.inr (.inr (fun j => some (qh (x_pi j)))))))), (qn, .inr (1, [.int n_nodes, .int n_links, .int n_room, .int n_alive, .int n_inMap, .ref qn_low, .ref qn_high, .ref qn_length])), (qn_low, .inl (cI, 18, .inl n_low)), (qn_high, .inl (cI, 18, .inl n_high)), (qn_length, .inl (cI, 18, .inl n_length))] ++ k_hc cI qh qhl qhg qht h_C) H → va_D A ([(qd, .inr (1, [.int d_nodes, .int d_links, .int d_room, .int d_alive, .int d_inMap, .ref qd_low, .ref qd_high, .ref qd_length])), (qd_low, .inl (cI, 18, .inl d_low)), (qd_high, .inl (cI, 18, .inl d_high)), (qd_length, .inl (cI, 18, .inl d_length)), (qz, .inr (3, [.ref qz_codes, .int z_size, .int z_faultAt, .int z_wordStart, .int z_wordEnd, .int z_kind, .int z_first, .int z_second, .int z_digit])), (qz_codes, .inl (cI, 80, .inl z_codes)), (qx, .inr (5, [.ref qn, .ref qd, .ref qx_history, .int x_undoable, .ref qx_images, .ref qx_kept, .ref qy, .ref qt, .int x_letterSent, .int x_letterFits, .ref qv, .ref qz])), (qx_history, .inl (cN, 8, .inr (.inr (.inr (.inr (fun j => some (qh (x_pi j)))))))), (qn, .inr (1, [.int n_nodes, .int n_links, .int n_room, .int n_alive, .int n_inMap, .ref qn_low, .ref qn_high, .ref qn_length])), (qn_low, .inl (cI, 18, .inl n_low)), (qn_high, .inl (cI, 18, .inl n_high)), (qn_length, .inl (cI, 18, .inl n_length))] ++ k_hc cI qh qhl qhg qht h_C) → va_S A s.heap H locs → lv_has ls 2 [(0, .ref qx), (1, .int x1)] → f_X5_execute_b32 n32 x1 x_pi x_undoable x_letterFits n_nodes n_links n_room n_alive n_inMap n_low n_high n_length d_nodes d_links d_room d_alive d_inMap d_low d_high d_length z_codes z_size z_faultAt z_wordStart z_wordEnd z_kind z_first z_second z_digit h_C = some (r, z_x_pi, z_x_undoable, z_x_letterFits, z_n_nodes, z_n_links, z_n_room, z_n_alive, z_n_inMap, z_n_low, z_n_high, z_n_length, z_d_nodes, z_d_links, z_d_room, z_d_alive, z_d_inMap, z_d_low, z_d_high, z_d_length, z_z_faultAt, z_z_wordStart, z_z_wordEnd, z_z_kind, z_z_first, z_z_second, z_z_digit, z_h_C) → W p l e { frames := 8, cells := 0, slots := 0, locals := 169 } s m ([.ref qx] : List Value).toArray below meth c H locs 0 0 (MQ below (k_QI D r ([(qd, .inr (1, [.int z_d_nodes, .int z_d_links, .int z_d_room, .int z_d_alive, .int z_d_inMap, .ref qd_low, .ref qd_high, .ref qd_length])), (qd_low, .inl (cI, 18, .inl z_d_low)), (qd_high, .inl (cI, 18, .inl z_d_high)), (qd_length, .inl (cI, 18, .inl z_d_length)), (qz, .inr (3, [.ref qz_codes, .int z_size, .int z_z_faultAt, .int z_z_wordStart, .int z_z_wordEnd, .int z_z_kind, .int z_z_first, .int z_z_second, .int z_z_digit])), (qz_codes, .inl (cI, 80, .inl z_codes)), (qx, .inr (5, [.ref qn, .ref qd, .ref qx_history, .int z_x_undoable, .ref qx_images, .ref qx_kept, .ref qy, .ref qt, .int x_letterSent, .int z_x_letterFits, .ref qv, .ref qz])), (qx_history, .inl (cN, 8, .inr (.inr (.inr (.inr (fun j => some (qh (z_x_pi j)))))))), (qn, .inr (1, [.int z_n_nodes, .int z_n_links, .int z_n_room, .int z_n_alive, .int z_n_inMap, .ref qn_low, .ref qn_high, .ref qn_length])), (qn_low, .inl (cI, 18, .inl z_n_low)), (qn_high, .inl (cI, 18, .inl z_n_high)), (qn_length, .inl (cI, 18, .inl z_n_length))] ++ k_hc cI qh qhl qhg qht z_h_C) A) ([.ref qx] : List Value).toArray s 0 0 A) (F0 m 32 ls []) := by
    intro n32
    induction n32 with
    | zero =>
      intro x1 x_pi x_undoable x_letterFits n_nodes n_links n_room n_alive n_inMap n_low n_high n_length d_nodes d_links d_room d_alive d_inMap d_low d_high d_length z_codes z_size z_faultAt z_wordStart z_wordEnd z_kind z_first z_second z_digit h_C H locs ls hP hD hS hl h
      rw [f_X5_execute_b32] at h
      cases h
    | succ n32 ih32 =>
      intro x1 x_pi x_undoable x_letterFits n_nodes n_links n_room n_alive n_inMap n_low n_high n_length d_nodes d_links d_room d_alive d_inMap d_low d_high d_length z_codes z_size z_faultAt z_wordStart z_wordEnd z_kind z_first z_second z_digit h_C H locs ls hP hD hS hl h
      rw [f_X5_execute_b32] at h
      have w73 : ∀  (x1 : Int32) (x_pi : (Nat → Nat)) (x_undoable : Int32) (x_letterFits : Int32) (n_nodes : Int32) (n_links : Int32) (n_room : Int32) (n_alive : Int32) (n_inMap : Int32) (n_low : (Nat → Int32)) (n_high : (Nat → Int32)) (n_length : (Nat → Int32)) (d_nodes : Int32) (d_links : Int32) (d_room : Int32) (d_alive : Int32) (d_inMap : Int32) (d_low : (Nat → Int32)) (d_high : (Nat → Int32)) (d_length : (Nat → Int32)) (z_codes : (Nat → Int32)) (z_size : Int32) (z_faultAt : Int32) (z_wordStart : Int32) (z_wordEnd : Int32) (z_kind : Int32) (z_first : Int32) (z_second : Int32) (z_digit : Int32) (h_C : (Nat → NV)) (H : Heap) (locs : List Loc) (ls : Array Slot), va_P D vwCl ([(qd, .inr (1, [.int d_nodes, .int d_links, .int d_room, .int d_alive, .int d_inMap, .ref qd_low, .ref qd_high, .ref qd_length])), (qd_low, .inl (cI, 18, .inl d_low)), (qd_high, .inl (cI, 18, .inl d_high)), (qd_length, .inl (cI, 18, .inl d_length)), (qz, .inr (3, [.ref qz_codes, .int z_size, .int z_faultAt, .int z_wordStart, .int z_wordEnd, .int z_kind, .int z_first, .int z_second, .int z_digit])), (qz_codes, .inl (cI, 80, .inl z_codes)), (qx, .inr (5, [.ref qn, .ref qd, .ref qx_history, .int x_undoable, .ref qx_images, .ref qx_kept, .ref qy, .ref qt, .int x_letterSent, .int x_letterFits, .ref qv, .ref qz])), (qx_history, .inl (cN, 8, .inr (.inr (.inr (.inr (fun j => some (qh (x_pi j)))))))), (qn, .inr (1, [.int n_nodes, .int n_links, .int n_room, .int n_alive, .int n_inMap, .ref qn_low, .ref qn_high, .ref qn_length])), (qn_low, .inl (cI, 18, .inl n_low)), (qn_high, .inl (cI, 18, .inl n_high)), (qn_length, .inl (cI, 18, .inl n_length))] ++ k_hc cI qh qhl qhg qht h_C) H → va_D A ([(qd, .inr (1, [.int d_nodes, .int d_links, .int d_room, .int d_alive, .int d_inMap, .ref qd_low, .ref qd_high, .ref qd_length])), (qd_low, .inl (cI, 18, .inl d_low)), (qd_high, .inl (cI, 18, .inl d_high)), (qd_length, .inl (cI, 18, .inl d_length)), (qz, .inr (3, [.ref qz_codes, .int z_size, .int z_faultAt, .int z_wordStart, .int z_wordEnd, .int z_kind, .int z_first, .int z_second, .int z_digit])), (qz_codes, .inl (cI, 80, .inl z_codes)), (qx, .inr (5, [.ref qn, .ref qd, .ref qx_history, .int x_undoable, .ref qx_images, .ref qx_kept, .ref qy, .ref qt, .int x_letterSent, .int x_letterFits, .ref qv, .ref qz])), (qx_history, .inl (cN, 8, .inr (.inr (.inr (.inr (fun j => some (qh (x_pi j)))))))), (qn, .inr (1, [.int n_nodes, .int n_links, .int n_room, .int n_alive, .int n_inMap, .ref qn_low, .ref qn_high, .ref qn_length])), (qn_low, .inl (cI, 18, .inl n_low)), (qn_high, .inl (cI, 18, .inl n_high)), (qn_length, .inl (cI, 18, .inl n_length))] ++ k_hc cI qh qhl qhg qht h_C) → va_S A s.heap H locs → lv_has ls 2 [(0, .ref qx), (1, .int x1)] → f_X5_execute_b73 x1 x_pi x_undoable x_letterFits n_nodes n_links n_room n_alive n_inMap n_low n_high n_length d_nodes d_links d_room d_alive d_inMap d_low d_high d_length z_codes z_size z_faultAt z_wordStart z_wordEnd z_kind z_first z_second z_digit h_C = some (r, z_x_pi, z_x_undoable, z_x_letterFits, z_n_nodes, z_n_links, z_n_room, z_n_alive, z_n_inMap, z_n_low, z_n_high, z_n_length, z_d_nodes, z_d_links, z_d_room, z_d_alive, z_d_inMap, z_d_low, z_d_high, z_d_length, z_z_faultAt, z_z_wordStart, z_z_wordEnd, z_z_kind, z_z_first, z_z_second, z_z_digit, z_h_C) → W p l e { frames := 8, cells := 0, slots := 0, locals := 169 } s m ([.ref qx] : List Value).toArray below meth c H locs 0 0 (MQ below (k_QI D r ([(qd, .inr (1, [.int z_d_nodes, .int z_d_links, .int z_d_room, .int z_d_alive, .int z_d_inMap, .ref qd_low, .ref qd_high, .ref qd_length])), (qd_low, .inl (cI, 18, .inl z_d_low)), (qd_high, .inl (cI, 18, .inl z_d_high)), (qd_length, .inl (cI, 18, .inl z_d_length)), (qz, .inr (3, [.ref qz_codes, .int z_size, .int z_z_faultAt, .int z_z_wordStart, .int z_z_wordEnd, .int z_z_kind, .int z_z_first, .int z_z_second, .int z_z_digit])), (qz_codes, .inl (cI, 80, .inl z_codes)), (qx, .inr (5, [.ref qn, .ref qd, .ref qx_history, .int z_x_undoable, .ref qx_images, .ref qx_kept, .ref qy, .ref qt, .int x_letterSent, .int z_x_letterFits, .ref qv, .ref qz])), (qx_history, .inl (cN, 8, .inr (.inr (.inr (.inr (fun j => some (qh (z_x_pi j)))))))), (qn, .inr (1, [.int z_n_nodes, .int z_n_links, .int z_n_room, .int z_n_alive, .int z_n_inMap, .ref qn_low, .ref qn_high, .ref qn_length])), (qn_low, .inl (cI, 18, .inl z_n_low)), (qn_high, .inl (cI, 18, .inl z_n_high)), (qn_length, .inl (cI, 18, .inl z_n_length))] ++ k_hc cI qh qhl qhg qht z_h_C) A) ([.ref qx] : List Value).toArray s 0 0 A) (F0 m 73 ls []) := by
        intro x1 x_pi x_undoable x_letterFits n_nodes n_links n_room n_alive n_inMap n_low n_high n_length d_nodes d_links d_room d_alive d_inMap d_low d_high d_length z_codes z_size z_faultAt z_wordStart z_wordEnd z_kind z_first z_second z_digit h_C H locs ls hP hD hS hl h
        unfold f_X5_execute_b73 at h
        refine lv_aload_n hx hb dX5_execute_73 rfl (lv_at hl 0 rfl) ?_
        obtain ⟨⟨o_41, o_42, o_43⟩, hc_44, h⟩ := ob_bind h
        dsimp only at h
        refine k_callVVs (qb := 0) [(qd, .inr (1, [.int d_nodes, .int d_links, .int d_room, .int d_alive, .int d_inMap, .ref qd_low, .ref qd_high, .ref qd_length])), (qd_low, .inl (cI, 18, .inl d_low)), (qd_high, .inl (cI, 18, .inl d_high)), (qd_length, .inl (cI, 18, .inl d_length)), (qz, .inr (3, [.ref qz_codes, .int z_size, .int z_faultAt, .int z_wordStart, .int z_wordEnd, .int z_kind, .int z_first, .int z_second, .int z_digit])), (qz_codes, .inl (cI, 80, .inl z_codes))] (As := []) (rest := []) ⟨hx, hb, hml, hown, hts⟩ hT hZ hA hP hD hS (c_X5_recordState l D cI cZ cN aK aV qx qx_history qx_images qx_kept qn qn_low qn_high qn_length qd qy qt qv qz qh qhl qhg qht x_pi x_undoable x_letterSent x_letterFits n_nodes n_links n_room n_alive n_inMap n_low n_high n_length h_C o_41 o_42 o_43 hc_44) ⟨callB_of 0 hts (k_good u_327) rfl rfl rfl (hu _ u_45) (hu _ u_324) (by decide +kernel) ⟨Nat.le_of_ble_eq_true rfl, Nat.le_of_ble_eq_true rfl⟩, hu _ u_326, hu _ u_0⟩ rfl rfl rfl rfl rfl hl.1 rfl (Nat.le_of_ble_eq_true rfl) dX5_execute_74 (fun H locs hP hD hS => ?_)
        have hP : va_P D vwCl ([(qd, .inr (1, [.int d_nodes, .int d_links, .int d_room, .int d_alive, .int d_inMap, .ref qd_low, .ref qd_high, .ref qd_length])), (qd_low, .inl (cI, 18, .inl d_low)), (qd_high, .inl (cI, 18, .inl d_high)), (qd_length, .inl (cI, 18, .inl d_length)), (qz, .inr (3, [.ref qz_codes, .int z_size, .int z_faultAt, .int z_wordStart, .int z_wordEnd, .int z_kind, .int z_first, .int z_second, .int z_digit])), (qz_codes, .inl (cI, 80, .inl z_codes)), (qx, .inr (5, [.ref qn, .ref qd, .ref qx_history, .int o_42, .ref qx_images, .ref qx_kept, .ref qy, .ref qt, .int x_letterSent, .int x_letterFits, .ref qv, .ref qz])), (qx_history, .inl (cN, 8, .inr (.inr (.inr (.inr (fun j => some (qh (o_41 j)))))))), (qn, .inr (1, [.int n_nodes, .int n_links, .int n_room, .int n_alive, .int n_inMap, .ref qn_low, .ref qn_high, .ref qn_length])), (qn_low, .inl (cI, 18, .inl n_low)), (qn_high, .inl (cI, 18, .inl n_high)), (qn_length, .inl (cI, 18, .inl n_length))] ++ k_hc cI qh qhl qhg qht o_43) H := hP
        have hD : va_D A ([(qd, .inr (1, [.int d_nodes, .int d_links, .int d_room, .int d_alive, .int d_inMap, .ref qd_low, .ref qd_high, .ref qd_length])), (qd_low, .inl (cI, 18, .inl d_low)), (qd_high, .inl (cI, 18, .inl d_high)), (qd_length, .inl (cI, 18, .inl d_length)), (qz, .inr (3, [.ref qz_codes, .int z_size, .int z_faultAt, .int z_wordStart, .int z_wordEnd, .int z_kind, .int z_first, .int z_second, .int z_digit])), (qz_codes, .inl (cI, 80, .inl z_codes)), (qx, .inr (5, [.ref qn, .ref qd, .ref qx_history, .int o_42, .ref qx_images, .ref qx_kept, .ref qy, .ref qt, .int x_letterSent, .int x_letterFits, .ref qv, .ref qz])), (qx_history, .inl (cN, 8, .inr (.inr (.inr (.inr (fun j => some (qh (o_41 j)))))))), (qn, .inr (1, [.int n_nodes, .int n_links, .int n_room, .int n_alive, .int n_inMap, .ref qn_low, .ref qn_high, .ref qn_length])), (qn_low, .inl (cI, 18, .inl n_low)), (qn_high, .inl (cI, 18, .inl n_high)), (qn_length, .inl (cI, 18, .inl n_length))] ++ k_hc cI qh qhl qhg qht o_43) := hD
        refine lv_aload_n hx hb dX5_execute_77 rfl (lv_at hl 0 rfl) ?_
        refine lv_iconst (v := (0 : Int32)) hx hb dX5_execute_78 (by decide) ?_
        refine va_put (D := D) (ci := 5) (v := .int (0 : Int32)) (ty := .boolean) (C := RX5) (T := TX5) (N := 12) hx hb hu k_iX5 tyX5 tyX5_ok nmX5 hown hK hP hD hS 6 rfl rfl 9 (by decide) (hu _ u_292) (fun _ h9 => h9) rfl (by decide +kernel) rfl rfl (Nat.le_of_ble_eq_true rfl) dX5_execute_79 (fun H locs hP hD hS => ?_)
        have hP : va_P D vwCl ([(qd, .inr (1, [.int d_nodes, .int d_links, .int d_room, .int d_alive, .int d_inMap, .ref qd_low, .ref qd_high, .ref qd_length])), (qd_low, .inl (cI, 18, .inl d_low)), (qd_high, .inl (cI, 18, .inl d_high)), (qd_length, .inl (cI, 18, .inl d_length)), (qz, .inr (3, [.ref qz_codes, .int z_size, .int z_faultAt, .int z_wordStart, .int z_wordEnd, .int z_kind, .int z_first, .int z_second, .int z_digit])), (qz_codes, .inl (cI, 80, .inl z_codes)), (qx, .inr (5, [.ref qn, .ref qd, .ref qx_history, .int o_42, .ref qx_images, .ref qx_kept, .ref qy, .ref qt, .int x_letterSent, .int (0 : Int32), .ref qv, .ref qz])), (qx_history, .inl (cN, 8, .inr (.inr (.inr (.inr (fun j => some (qh (o_41 j)))))))), (qn, .inr (1, [.int n_nodes, .int n_links, .int n_room, .int n_alive, .int n_inMap, .ref qn_low, .ref qn_high, .ref qn_length])), (qn_low, .inl (cI, 18, .inl n_low)), (qn_high, .inl (cI, 18, .inl n_high)), (qn_length, .inl (cI, 18, .inl n_length))] ++ k_hc cI qh qhl qhg qht o_43) H := hP
        have hD : va_D A ([(qd, .inr (1, [.int d_nodes, .int d_links, .int d_room, .int d_alive, .int d_inMap, .ref qd_low, .ref qd_high, .ref qd_length])), (qd_low, .inl (cI, 18, .inl d_low)), (qd_high, .inl (cI, 18, .inl d_high)), (qd_length, .inl (cI, 18, .inl d_length)), (qz, .inr (3, [.ref qz_codes, .int z_size, .int z_faultAt, .int z_wordStart, .int z_wordEnd, .int z_kind, .int z_first, .int z_second, .int z_digit])), (qz_codes, .inl (cI, 80, .inl z_codes)), (qx, .inr (5, [.ref qn, .ref qd, .ref qx_history, .int o_42, .ref qx_images, .ref qx_kept, .ref qy, .ref qt, .int x_letterSent, .int (0 : Int32), .ref qv, .ref qz])), (qx_history, .inl (cN, 8, .inr (.inr (.inr (.inr (fun j => some (qh (o_41 j)))))))), (qn, .inr (1, [.int n_nodes, .int n_links, .int n_room, .int n_alive, .int n_inMap, .ref qn_low, .ref qn_high, .ref qn_length])), (qn_low, .inl (cI, 18, .inl n_low)), (qn_high, .inl (cI, 18, .inl n_high)), (qn_length, .inl (cI, 18, .inl n_length))] ++ k_hc cI qh qhl qhg qht o_43) := hD
        refine lv_aload_n hx hb dX5_execute_82 rfl (lv_at hl 0 rfl) ?_
        refine va_get (D := D) (ci := 5) (v := .ref qn) (C := RX5) (T := TX5) (N := 12) hx hb hu k_iX5 hown hK hP 6 rfl rfl 0 (by decide) (hu _ u_283) (fun _ h9 => h9) rfl dX5_execute_83 ?_
        refine lv_aload_n hx hb dX5_execute_86 rfl (lv_at hl 0 rfl) ?_
        refine va_get (D := D) (ci := 5) (v := .ref qd) (C := RX5) (T := TX5) (N := 12) hx hb hu k_iX5 hown hK hP 6 rfl rfl 1 (by decide) (hu _ u_284) (fun _ h9 => h9) rfl dX5_execute_87 ?_
        obtain ⟨⟨o_45, o_46, o_47, o_48, o_49, o_50, o_51, o_52⟩, hc_53, h⟩ := ob_bind h
        dsimp only at h
        refine k_callVV (qb := 0) [8, 9, 10, 11, 0, 1, 2, 3] [0, 1, 2, 3] [8, 9, 10, 11] [(qn, .inr (1, [.int o_45, .int o_46, .int o_47, .int o_48, .int o_49, .ref qn_low, .ref qn_high, .ref qn_length])), (qn_low, .inl (cI, 18, .inl o_50)), (qn_high, .inl (cI, 18, .inl o_51)), (qn_length, .inl (cI, 18, .inl o_52))] (As := [.ref qd]) (rest := []) ⟨hx, hb, hml, hown, hts⟩ hT hZ hA hP hD hS (c_X1_copyFrom l D cI cZ cN aK aV qn qn_low qn_high qn_length qd qd_low qd_high qd_length n_nodes n_links n_room n_alive n_inMap n_low n_high n_length d_nodes d_links d_room d_alive d_inMap d_low d_high d_length o_45 o_46 o_47 o_48 o_49 o_50 o_51 o_52 hc_53) ⟨callB_of 1 hts (k_good u_335) rfl rfl rfl (hu _ u_46) (hu _ u_332) (by decide +kernel) ⟨Nat.le_of_ble_eq_true rfl, Nat.le_of_ble_eq_true rfl⟩, hu _ u_333, hu _ u_334⟩ rfl rfl rfl (by decide) (by decide) (by decide) rfl rfl rfl rfl hl.1 rfl (Nat.le_of_ble_eq_true rfl) dX5_execute_90 (fun H locs hP hD hS => ?_)
        have hP : va_P D vwCl ([(qd, .inr (1, [.int d_nodes, .int d_links, .int d_room, .int d_alive, .int d_inMap, .ref qd_low, .ref qd_high, .ref qd_length])), (qd_low, .inl (cI, 18, .inl d_low)), (qd_high, .inl (cI, 18, .inl d_high)), (qd_length, .inl (cI, 18, .inl d_length)), (qz, .inr (3, [.ref qz_codes, .int z_size, .int z_faultAt, .int z_wordStart, .int z_wordEnd, .int z_kind, .int z_first, .int z_second, .int z_digit])), (qz_codes, .inl (cI, 80, .inl z_codes)), (qx, .inr (5, [.ref qn, .ref qd, .ref qx_history, .int o_42, .ref qx_images, .ref qx_kept, .ref qy, .ref qt, .int x_letterSent, .int (0 : Int32), .ref qv, .ref qz])), (qx_history, .inl (cN, 8, .inr (.inr (.inr (.inr (fun j => some (qh (o_41 j)))))))), (qn, .inr (1, [.int o_45, .int o_46, .int o_47, .int o_48, .int o_49, .ref qn_low, .ref qn_high, .ref qn_length])), (qn_low, .inl (cI, 18, .inl o_50)), (qn_high, .inl (cI, 18, .inl o_51)), (qn_length, .inl (cI, 18, .inl o_52))] ++ k_hc cI qh qhl qhg qht o_43) H := hP
        have hD : va_D A ([(qd, .inr (1, [.int d_nodes, .int d_links, .int d_room, .int d_alive, .int d_inMap, .ref qd_low, .ref qd_high, .ref qd_length])), (qd_low, .inl (cI, 18, .inl d_low)), (qd_high, .inl (cI, 18, .inl d_high)), (qd_length, .inl (cI, 18, .inl d_length)), (qz, .inr (3, [.ref qz_codes, .int z_size, .int z_faultAt, .int z_wordStart, .int z_wordEnd, .int z_kind, .int z_first, .int z_second, .int z_digit])), (qz_codes, .inl (cI, 80, .inl z_codes)), (qx, .inr (5, [.ref qn, .ref qd, .ref qx_history, .int o_42, .ref qx_images, .ref qx_kept, .ref qy, .ref qt, .int x_letterSent, .int (0 : Int32), .ref qv, .ref qz])), (qx_history, .inl (cN, 8, .inr (.inr (.inr (.inr (fun j => some (qh (o_41 j)))))))), (qn, .inr (1, [.int o_45, .int o_46, .int o_47, .int o_48, .int o_49, .ref qn_low, .ref qn_high, .ref qn_length])), (qn_low, .inl (cI, 18, .inl o_50)), (qn_high, .inl (cI, 18, .inl o_51)), (qn_length, .inl (cI, 18, .inl o_52))] ++ k_hc cI qh qhl qhg qht o_43) := hD
        refine lv_iload_n hx hb dX5_execute_93 rfl (lv_at hl 1 rfl) ?_
        have hq := Option.some.inj h
        clear h
        obtain ⟨e0, hq0⟩ := Prod.mk.inj hq
        clear hq
        obtain ⟨e1, hq1⟩ := Prod.mk.inj hq0
        clear hq0
        obtain ⟨e2, hq2⟩ := Prod.mk.inj hq1
        clear hq1
        obtain ⟨e3, hq3⟩ := Prod.mk.inj hq2
        clear hq2
        obtain ⟨e4, hq4⟩ := Prod.mk.inj hq3
        clear hq3
        obtain ⟨e5, hq5⟩ := Prod.mk.inj hq4
        clear hq4
        obtain ⟨e6, hq6⟩ := Prod.mk.inj hq5
        clear hq5
        obtain ⟨e7, hq7⟩ := Prod.mk.inj hq6
        clear hq6
        obtain ⟨e8, hq8⟩ := Prod.mk.inj hq7
        clear hq7
        obtain ⟨e9, hq9⟩ := Prod.mk.inj hq8
        clear hq8
        obtain ⟨e10, hq10⟩ := Prod.mk.inj hq9
        clear hq9
        obtain ⟨e11, hq11⟩ := Prod.mk.inj hq10
        clear hq10
        obtain ⟨e12, hq12⟩ := Prod.mk.inj hq11
        clear hq11
        obtain ⟨e13, hq13⟩ := Prod.mk.inj hq12
        clear hq12
        obtain ⟨e14, hq14⟩ := Prod.mk.inj hq13
        clear hq13
        obtain ⟨e15, hq15⟩ := Prod.mk.inj hq14
        clear hq14
        obtain ⟨e16, hq16⟩ := Prod.mk.inj hq15
        clear hq15
        obtain ⟨e17, hq17⟩ := Prod.mk.inj hq16
        clear hq16
        obtain ⟨e18, hq18⟩ := Prod.mk.inj hq17
        clear hq17
        obtain ⟨e19, hq19⟩ := Prod.mk.inj hq18
        clear hq18
        obtain ⟨e20, hq20⟩ := Prod.mk.inj hq19
        clear hq19
        obtain ⟨e21, hq21⟩ := Prod.mk.inj hq20
        clear hq20
        obtain ⟨e22, hq22⟩ := Prod.mk.inj hq21
        clear hq21
        obtain ⟨e23, hq23⟩ := Prod.mk.inj hq22
        clear hq22
        obtain ⟨e24, hq24⟩ := Prod.mk.inj hq23
        clear hq23
        obtain ⟨e25, hq25⟩ := Prod.mk.inj hq24
        clear hq24
        obtain ⟨e26, hq26⟩ := Prod.mk.inj hq25
        clear hq25
        subst e0
        subst e1
        subst e2
        subst e3
        subst e4
        subst e5
        subst e6
        subst e7
        subst e8
        subst e9
        subst e10
        subst e11
        subst e12
        subst e13
        subst e14
        subst e15
        subst e16
        subst e17
        subst e18
        subst e19
        subst e20
        subst e21
        subst e22
        subst e23
        subst e24
        subst e25
        subst e26
        subst hq26
        exact k_retI hx hb hr hlocks hP hD hS dX5_execute_94
      refine lv_iload_n hx hb dX5_execute_32 rfl (lv_at hl 1 rfl) ?_
      refine lv_bipush (v := (80 : Int32)) hx hb dX5_execute_33 (by decide) ?_
      refine lv_icmp_ge (tgt := 73) hx hb dX5_execute_35 (by decide) (fun cc_20 => ?_) (fun cc_20 => ?_)
      · have h := (if_pos cc_20).symm.trans h
        exact w73 x1 x_pi x_undoable x_letterFits n_nodes n_links n_room n_alive n_inMap n_low n_high n_length d_nodes d_links d_room d_alive d_inMap d_low d_high d_length z_codes z_size z_faultAt z_wordStart z_wordEnd z_kind z_first z_second z_digit h_C _ _ _ hP hD hS (lv_sub hl [0, 1] rfl) h
      · have h := (if_neg cc_20).symm.trans h
        refine lv_aload_n hx hb dX5_execute_38 rfl (lv_at hl 0 rfl) ?_
        refine va_get (D := D) (ci := 5) (v := .ref qz) (C := RX5) (T := TX5) (N := 12) hx hb hu k_iX5 hown hK hP 6 rfl rfl 11 (by decide) (hu _ u_294) (fun _ h9 => h9) rfl dX5_execute_39 ?_
        obtain ⟨⟨r_21, o_22, o_23, o_24, o_25, o_26, o_27, o_28⟩, hc_29, h⟩ := ob_bind h
        dsimp only at h
        refine k_callVI (qb := 0) [4, 5] [0] [4] [(qz, .inr (3, [.ref qz_codes, .int z_size, .int o_22, .int o_23, .int o_24, .int o_25, .int o_26, .int o_27, .int o_28]))] (As := []) (rest := []) ⟨hx, hb, hml, hown, hts⟩ hT hZ hA hP hD hS (c_X3_readCommand l D cI cZ cN aK aV qz qz_codes z_codes z_size z_faultAt z_wordStart z_wordEnd z_kind z_first z_second z_digit r_21 o_22 o_23 o_24 o_25 o_26 o_27 o_28 hc_29) ⟨callB_of 0 hts (k_good u_606) rfl rfl rfl (hu _ u_50) (hu _ u_603) (by decide +kernel) ⟨Nat.le_of_ble_eq_true rfl, Nat.le_of_ble_eq_true rfl⟩, hu _ u_604, hu _ u_605⟩ rfl rfl rfl (by decide) (by decide) (by decide) rfl rfl rfl rfl hl.1 rfl (Nat.le_of_ble_eq_true rfl) dX5_execute_42 (fun H locs hP hD hS => ?_)
        have hP : va_P D vwCl ([(qd, .inr (1, [.int d_nodes, .int d_links, .int d_room, .int d_alive, .int d_inMap, .ref qd_low, .ref qd_high, .ref qd_length])), (qd_low, .inl (cI, 18, .inl d_low)), (qd_high, .inl (cI, 18, .inl d_high)), (qd_length, .inl (cI, 18, .inl d_length)), (qz, .inr (3, [.ref qz_codes, .int z_size, .int o_22, .int o_23, .int o_24, .int o_25, .int o_26, .int o_27, .int o_28])), (qz_codes, .inl (cI, 80, .inl z_codes)), (qx, .inr (5, [.ref qn, .ref qd, .ref qx_history, .int x_undoable, .ref qx_images, .ref qx_kept, .ref qy, .ref qt, .int x_letterSent, .int x_letterFits, .ref qv, .ref qz])), (qx_history, .inl (cN, 8, .inr (.inr (.inr (.inr (fun j => some (qh (x_pi j)))))))), (qn, .inr (1, [.int n_nodes, .int n_links, .int n_room, .int n_alive, .int n_inMap, .ref qn_low, .ref qn_high, .ref qn_length])), (qn_low, .inl (cI, 18, .inl n_low)), (qn_high, .inl (cI, 18, .inl n_high)), (qn_length, .inl (cI, 18, .inl n_length))] ++ k_hc cI qh qhl qhg qht h_C) H := hP
        have hD : va_D A ([(qd, .inr (1, [.int d_nodes, .int d_links, .int d_room, .int d_alive, .int d_inMap, .ref qd_low, .ref qd_high, .ref qd_length])), (qd_low, .inl (cI, 18, .inl d_low)), (qd_high, .inl (cI, 18, .inl d_high)), (qd_length, .inl (cI, 18, .inl d_length)), (qz, .inr (3, [.ref qz_codes, .int z_size, .int o_22, .int o_23, .int o_24, .int o_25, .int o_26, .int o_27, .int o_28])), (qz_codes, .inl (cI, 80, .inl z_codes)), (qx, .inr (5, [.ref qn, .ref qd, .ref qx_history, .int x_undoable, .ref qx_images, .ref qx_kept, .ref qy, .ref qt, .int x_letterSent, .int x_letterFits, .ref qv, .ref qz])), (qx_history, .inl (cN, 8, .inr (.inr (.inr (.inr (fun j => some (qh (x_pi j)))))))), (qn, .inr (1, [.int n_nodes, .int n_links, .int n_room, .int n_alive, .int n_inMap, .ref qn_low, .ref qn_high, .ref qn_length])), (qn_low, .inl (cI, 18, .inl n_low)), (qn_high, .inl (cI, 18, .inl n_high)), (qn_length, .inl (cI, 18, .inl n_length))] ++ k_hc cI qh qhl qhg qht h_C) := hD
        refine lv_if_eq (tgt := 73) hx hb dX5_execute_45 (by decide) (fun cc_30 => ?_) (fun cc_30 => ?_)
        · have h := (if_pos cc_30).symm.trans h
          exact w73 x1 x_pi x_undoable x_letterFits n_nodes n_links n_room n_alive n_inMap n_low n_high n_length d_nodes d_links d_room d_alive d_inMap d_low d_high d_length z_codes z_size o_22 o_23 o_24 o_25 o_26 o_27 o_28 h_C _ _ _ hP hD hS (lv_sub hl [0, 1] rfl) h
        · have h := (if_neg cc_30).symm.trans h
          refine lv_aload_n hx hb dX5_execute_48 rfl (lv_at hl 0 rfl) ?_
          refine va_get (D := D) (ci := 5) (v := .ref qz) (C := RX5) (T := TX5) (N := 12) hx hb hu k_iX5 hown hK hP 6 rfl rfl 11 (by decide) (hu _ u_294) (fun _ h9 => h9) rfl dX5_execute_49 ?_
          refine lv_aload_n hx hb dX5_execute_52 rfl (lv_at hl 0 rfl) ?_
          refine va_get (D := D) (ci := 5) (v := .ref qd) (C := RX5) (T := TX5) (N := 12) hx hb hu k_iX5 hown hK hP 6 rfl rfl 1 (by decide) (hu _ u_284) (fun _ h9 => h9) rfl dX5_execute_53 ?_
          obtain ⟨⟨r_31, o_32, o_33, o_34, o_35, o_36, o_37, o_38⟩, hc_39, h⟩ := ob_bind h
          dsimp only at h
          refine k_callVI (qb := 0) [4, 0, 1, 2, 3] [1, 2, 3, 4] [0, 1, 2, 3] [(qd, .inr (1, [.int o_32, .int o_33, .int d_room, .int o_34, .int o_35, .ref qd_low, .ref qd_high, .ref qd_length])), (qd_low, .inl (cI, 18, .inl o_36)), (qd_high, .inl (cI, 18, .inl o_37)), (qd_length, .inl (cI, 18, .inl o_38))] (As := [.ref qd]) (rest := []) ⟨hx, hb, hml, hown, hts⟩ hT hZ hA hP hD hS (c_X3_carryOut l D cI cZ cN aK aV qz qz_codes qd qd_low qd_high qd_length z_size o_22 o_23 o_24 o_25 o_26 o_27 o_28 d_nodes d_links d_room d_alive d_inMap d_low d_high d_length r_31 o_32 o_33 o_34 o_35 o_36 o_37 o_38 hc_39) ⟨callB_of 1 hts (k_good u_693) rfl rfl rfl (hu _ u_50) (hu _ u_690) (by decide +kernel) ⟨Nat.le_of_ble_eq_true rfl, Nat.le_of_ble_eq_true rfl⟩, hu _ u_691, hu _ u_692⟩ rfl rfl rfl (by decide) (by decide) (by decide) rfl rfl rfl rfl hl.1 rfl (Nat.le_of_ble_eq_true rfl) dX5_execute_56 (fun H locs hP hD hS => ?_)
          have hP : va_P D vwCl ([(qd, .inr (1, [.int o_32, .int o_33, .int d_room, .int o_34, .int o_35, .ref qd_low, .ref qd_high, .ref qd_length])), (qd_low, .inl (cI, 18, .inl o_36)), (qd_high, .inl (cI, 18, .inl o_37)), (qd_length, .inl (cI, 18, .inl o_38)), (qz, .inr (3, [.ref qz_codes, .int z_size, .int o_22, .int o_23, .int o_24, .int o_25, .int o_26, .int o_27, .int o_28])), (qz_codes, .inl (cI, 80, .inl z_codes)), (qx, .inr (5, [.ref qn, .ref qd, .ref qx_history, .int x_undoable, .ref qx_images, .ref qx_kept, .ref qy, .ref qt, .int x_letterSent, .int x_letterFits, .ref qv, .ref qz])), (qx_history, .inl (cN, 8, .inr (.inr (.inr (.inr (fun j => some (qh (x_pi j)))))))), (qn, .inr (1, [.int n_nodes, .int n_links, .int n_room, .int n_alive, .int n_inMap, .ref qn_low, .ref qn_high, .ref qn_length])), (qn_low, .inl (cI, 18, .inl n_low)), (qn_high, .inl (cI, 18, .inl n_high)), (qn_length, .inl (cI, 18, .inl n_length))] ++ k_hc cI qh qhl qhg qht h_C) H := hP
          have hD : va_D A ([(qd, .inr (1, [.int o_32, .int o_33, .int d_room, .int o_34, .int o_35, .ref qd_low, .ref qd_high, .ref qd_length])), (qd_low, .inl (cI, 18, .inl o_36)), (qd_high, .inl (cI, 18, .inl o_37)), (qd_length, .inl (cI, 18, .inl o_38)), (qz, .inr (3, [.ref qz_codes, .int z_size, .int o_22, .int o_23, .int o_24, .int o_25, .int o_26, .int o_27, .int o_28])), (qz_codes, .inl (cI, 80, .inl z_codes)), (qx, .inr (5, [.ref qn, .ref qd, .ref qx_history, .int x_undoable, .ref qx_images, .ref qx_kept, .ref qy, .ref qt, .int x_letterSent, .int x_letterFits, .ref qv, .ref qz])), (qx_history, .inl (cN, 8, .inr (.inr (.inr (.inr (fun j => some (qh (x_pi j)))))))), (qn, .inr (1, [.int n_nodes, .int n_links, .int n_room, .int n_alive, .int n_inMap, .ref qn_low, .ref qn_high, .ref qn_length])), (qn_low, .inl (cI, 18, .inl n_low)), (qn_high, .inl (cI, 18, .inl n_high)), (qn_length, .inl (cI, 18, .inl n_length))] ++ k_hc cI qh qhl qhg qht h_C) := hD
          refine lv_if_ne (tgt := 67) hx hb dX5_execute_59 (by decide) (fun cc_40 => ?_) (fun cc_40 => ?_)
          · have h := (if_neg cc_40).symm.trans h
            refine lv_iinc (v := (x1 + (1 : Int32))) (lv' := [(1, .int (x1 + (1 : Int32))), (0, .ref qx)]) hx hb dX5_execute_67 hl (k := 1) rfl rfl (by decide) rfl (fun ls hl => ?_)
            refine lv_goto (tgt := 32) hx hb dX5_execute_70 (by decide) ?_
            exact ih32 (x1 + (1 : Int32)) x_pi x_undoable x_letterFits n_nodes n_links n_room n_alive n_inMap n_low n_high n_length o_32 o_33 d_room o_34 o_35 o_36 o_37 o_38 z_codes z_size o_22 o_23 o_24 o_25 o_26 o_27 o_28 h_C _ _ _ hP hD hS (lv_sub hl [1, 0] rfl) h
          · have h := (if_pos cc_40).symm.trans h
            refine lv_bipush (v := (-100 : Int32)) hx hb dX5_execute_62 (by decide) ?_
            refine lv_iload_n hx hb dX5_execute_64 rfl (lv_at hl 1 rfl) ?_
            refine lv_isub hx hb dX5_execute_65 ?_
            have hq := Option.some.inj h
            clear h
            obtain ⟨e0, hq0⟩ := Prod.mk.inj hq
            clear hq
            obtain ⟨e1, hq1⟩ := Prod.mk.inj hq0
            clear hq0
            obtain ⟨e2, hq2⟩ := Prod.mk.inj hq1
            clear hq1
            obtain ⟨e3, hq3⟩ := Prod.mk.inj hq2
            clear hq2
            obtain ⟨e4, hq4⟩ := Prod.mk.inj hq3
            clear hq3
            obtain ⟨e5, hq5⟩ := Prod.mk.inj hq4
            clear hq4
            obtain ⟨e6, hq6⟩ := Prod.mk.inj hq5
            clear hq5
            obtain ⟨e7, hq7⟩ := Prod.mk.inj hq6
            clear hq6
            obtain ⟨e8, hq8⟩ := Prod.mk.inj hq7
            clear hq7
            obtain ⟨e9, hq9⟩ := Prod.mk.inj hq8
            clear hq8
            obtain ⟨e10, hq10⟩ := Prod.mk.inj hq9
            clear hq9
            obtain ⟨e11, hq11⟩ := Prod.mk.inj hq10
            clear hq10
            obtain ⟨e12, hq12⟩ := Prod.mk.inj hq11
            clear hq11
            obtain ⟨e13, hq13⟩ := Prod.mk.inj hq12
            clear hq12
            obtain ⟨e14, hq14⟩ := Prod.mk.inj hq13
            clear hq13
            obtain ⟨e15, hq15⟩ := Prod.mk.inj hq14
            clear hq14
            obtain ⟨e16, hq16⟩ := Prod.mk.inj hq15
            clear hq15
            obtain ⟨e17, hq17⟩ := Prod.mk.inj hq16
            clear hq16
            obtain ⟨e18, hq18⟩ := Prod.mk.inj hq17
            clear hq17
            obtain ⟨e19, hq19⟩ := Prod.mk.inj hq18
            clear hq18
            obtain ⟨e20, hq20⟩ := Prod.mk.inj hq19
            clear hq19
            obtain ⟨e21, hq21⟩ := Prod.mk.inj hq20
            clear hq20
            obtain ⟨e22, hq22⟩ := Prod.mk.inj hq21
            clear hq21
            obtain ⟨e23, hq23⟩ := Prod.mk.inj hq22
            clear hq22
            obtain ⟨e24, hq24⟩ := Prod.mk.inj hq23
            clear hq23
            obtain ⟨e25, hq25⟩ := Prod.mk.inj hq24
            clear hq24
            obtain ⟨e26, hq26⟩ := Prod.mk.inj hq25
            clear hq25
            subst e0
            subst e1
            subst e2
            subst e3
            subst e4
            subst e5
            subst e6
            subst e7
            subst e8
            subst e9
            subst e10
            subst e11
            subst e12
            subst e13
            subst e14
            subst e15
            subst e16
            subst e17
            subst e18
            subst e19
            subst e20
            subst e21
            subst e22
            subst e23
            subst e24
            subst e25
            subst e26
            subst hq26
            exact k_retI hx hb hr hlocks hP hD hS dX5_execute_66
  refine lv_aload_n hx hb dX5_execute_0 rfl (lv_at hl 0 rfl) ?_
  obtain ⟨⟨r_1, o_2, o_3, o_4, o_5, o_6, o_7, o_8⟩, hc_9, h⟩ := ob_bind h
  dsimp only at h
  refine k_callVI (qb := 2) [4, 5, 6] [0] [4] [(qz, .inr (3, [.ref qz_codes, .int z_size, .int o_2, .int o_3, .int o_4, .int o_5, .int o_6, .int o_7, .int o_8]))] (As := []) (rest := []) ⟨hx, hb, hml, hown, hts⟩ hT hZ hA hP hD hS (c_X5_fault l D cI cZ cN aK aV qx qx_history qx_images qx_kept qn qd qy qt qv qz qz_codes x_undoable x_letterSent x_letterFits z_codes z_size z_faultAt z_wordStart z_wordEnd z_kind z_first z_second z_digit r_1 o_2 o_3 o_4 o_5 o_6 o_7 o_8 hc_9) ⟨callB_of 0 hts (k_good u_598) rfl rfl rfl (hu _ u_45) (hu _ u_689) (by decide +kernel) ⟨Nat.le_of_ble_eq_true rfl, Nat.le_of_ble_eq_true rfl⟩, hu _ u_596, hu _ u_597⟩ rfl rfl rfl (by decide) (by decide) (by decide) rfl rfl rfl rfl hl.1 rfl (Nat.le_of_ble_eq_true rfl) dX5_execute_1 (fun H locs hP hD hS => ?_)
  have hP : va_P D vwCl ([(qd, .inr (1, [.int d_nodes, .int d_links, .int d_room, .int d_alive, .int d_inMap, .ref qd_low, .ref qd_high, .ref qd_length])), (qd_low, .inl (cI, 18, .inl d_low)), (qd_high, .inl (cI, 18, .inl d_high)), (qd_length, .inl (cI, 18, .inl d_length)), (qz, .inr (3, [.ref qz_codes, .int z_size, .int o_2, .int o_3, .int o_4, .int o_5, .int o_6, .int o_7, .int o_8])), (qz_codes, .inl (cI, 80, .inl z_codes)), (qx, .inr (5, [.ref qn, .ref qd, .ref qx_history, .int x_undoable, .ref qx_images, .ref qx_kept, .ref qy, .ref qt, .int x_letterSent, .int x_letterFits, .ref qv, .ref qz])), (qx_history, .inl (cN, 8, .inr (.inr (.inr (.inr (fun j => some (qh (x_pi j)))))))), (qn, .inr (1, [.int n_nodes, .int n_links, .int n_room, .int n_alive, .int n_inMap, .ref qn_low, .ref qn_high, .ref qn_length])), (qn_low, .inl (cI, 18, .inl n_low)), (qn_high, .inl (cI, 18, .inl n_high)), (qn_length, .inl (cI, 18, .inl n_length))] ++ k_hc cI qh qhl qhg qht h_C) H := hP
  have hD : va_D A ([(qd, .inr (1, [.int d_nodes, .int d_links, .int d_room, .int d_alive, .int d_inMap, .ref qd_low, .ref qd_high, .ref qd_length])), (qd_low, .inl (cI, 18, .inl d_low)), (qd_high, .inl (cI, 18, .inl d_high)), (qd_length, .inl (cI, 18, .inl d_length)), (qz, .inr (3, [.ref qz_codes, .int z_size, .int o_2, .int o_3, .int o_4, .int o_5, .int o_6, .int o_7, .int o_8])), (qz_codes, .inl (cI, 80, .inl z_codes)), (qx, .inr (5, [.ref qn, .ref qd, .ref qx_history, .int x_undoable, .ref qx_images, .ref qx_kept, .ref qy, .ref qt, .int x_letterSent, .int x_letterFits, .ref qv, .ref qz])), (qx_history, .inl (cN, 8, .inr (.inr (.inr (.inr (fun j => some (qh (x_pi j)))))))), (qn, .inr (1, [.int n_nodes, .int n_links, .int n_room, .int n_alive, .int n_inMap, .ref qn_low, .ref qn_high, .ref qn_length])), (qn_low, .inl (cI, 18, .inl n_low)), (qn_high, .inl (cI, 18, .inl n_high)), (qn_length, .inl (cI, 18, .inl n_length))] ++ k_hc cI qh qhl qhg qht h_C) := hD
  refine lv_bipush (v := (-9 : Int32)) hx hb dX5_execute_4 (by decide) ?_
  refine lv_icmp_eq (tgt := 12) hx hb dX5_execute_6 (by decide) (fun cc_10 => ?_) (fun cc_10 => ?_)
  · have h := (if_pos cc_10).symm.trans h
    refine lv_aload_n hx hb dX5_execute_12 rfl (lv_at hl 0 rfl) ?_
    refine va_get (D := D) (ci := 5) (v := .ref qd) (C := RX5) (T := TX5) (N := 12) hx hb hu k_iX5 hown hK hP 6 rfl rfl 1 (by decide) (hu _ u_284) (fun _ h9 => h9) rfl dX5_execute_13 ?_
    refine lv_aload_n hx hb dX5_execute_16 rfl (lv_at hl 0 rfl) ?_
    refine va_get (D := D) (ci := 5) (v := .ref qn) (C := RX5) (T := TX5) (N := 12) hx hb hu k_iX5 hown hK hP 6 rfl rfl 0 (by decide) (hu _ u_283) (fun _ h9 => h9) rfl dX5_execute_17 ?_
    obtain ⟨⟨o_11, o_12, o_13, o_14, o_15, o_16, o_17, o_18⟩, hc_19, h⟩ := ob_bind h
    dsimp only at h
    refine k_callVV (qb := 0) [0, 1, 2, 3, 8, 9, 10, 11] [0, 1, 2, 3] [0, 1, 2, 3] [(qd, .inr (1, [.int o_11, .int o_12, .int o_13, .int o_14, .int o_15, .ref qd_low, .ref qd_high, .ref qd_length])), (qd_low, .inl (cI, 18, .inl o_16)), (qd_high, .inl (cI, 18, .inl o_17)), (qd_length, .inl (cI, 18, .inl o_18))] (As := [.ref qn]) (rest := []) ⟨hx, hb, hml, hown, hts⟩ hT hZ hA hP hD hS (c_X1_copyFrom l D cI cZ cN aK aV qd qd_low qd_high qd_length qn qn_low qn_high qn_length d_nodes d_links d_room d_alive d_inMap d_low d_high d_length n_nodes n_links n_room n_alive n_inMap n_low n_high n_length o_11 o_12 o_13 o_14 o_15 o_16 o_17 o_18 hc_19) ⟨callB_of 1 hts (k_good u_335) rfl rfl rfl (hu _ u_46) (hu _ u_332) (by decide +kernel) ⟨Nat.le_of_ble_eq_true rfl, Nat.le_of_ble_eq_true rfl⟩, hu _ u_333, hu _ u_334⟩ rfl rfl rfl (by decide) (by decide) (by decide) rfl rfl rfl rfl hl.1 rfl (Nat.le_of_ble_eq_true rfl) dX5_execute_20 (fun H locs hP hD hS => ?_)
    have hP : va_P D vwCl ([(qd, .inr (1, [.int o_11, .int o_12, .int o_13, .int o_14, .int o_15, .ref qd_low, .ref qd_high, .ref qd_length])), (qd_low, .inl (cI, 18, .inl o_16)), (qd_high, .inl (cI, 18, .inl o_17)), (qd_length, .inl (cI, 18, .inl o_18)), (qz, .inr (3, [.ref qz_codes, .int z_size, .int o_2, .int o_3, .int o_4, .int o_5, .int o_6, .int o_7, .int o_8])), (qz_codes, .inl (cI, 80, .inl z_codes)), (qx, .inr (5, [.ref qn, .ref qd, .ref qx_history, .int x_undoable, .ref qx_images, .ref qx_kept, .ref qy, .ref qt, .int x_letterSent, .int x_letterFits, .ref qv, .ref qz])), (qx_history, .inl (cN, 8, .inr (.inr (.inr (.inr (fun j => some (qh (x_pi j)))))))), (qn, .inr (1, [.int n_nodes, .int n_links, .int n_room, .int n_alive, .int n_inMap, .ref qn_low, .ref qn_high, .ref qn_length])), (qn_low, .inl (cI, 18, .inl n_low)), (qn_high, .inl (cI, 18, .inl n_high)), (qn_length, .inl (cI, 18, .inl n_length))] ++ k_hc cI qh qhl qhg qht h_C) H := hP
    have hD : va_D A ([(qd, .inr (1, [.int o_11, .int o_12, .int o_13, .int o_14, .int o_15, .ref qd_low, .ref qd_high, .ref qd_length])), (qd_low, .inl (cI, 18, .inl o_16)), (qd_high, .inl (cI, 18, .inl o_17)), (qd_length, .inl (cI, 18, .inl o_18)), (qz, .inr (3, [.ref qz_codes, .int z_size, .int o_2, .int o_3, .int o_4, .int o_5, .int o_6, .int o_7, .int o_8])), (qz_codes, .inl (cI, 80, .inl z_codes)), (qx, .inr (5, [.ref qn, .ref qd, .ref qx_history, .int x_undoable, .ref qx_images, .ref qx_kept, .ref qy, .ref qt, .int x_letterSent, .int x_letterFits, .ref qv, .ref qz])), (qx_history, .inl (cN, 8, .inr (.inr (.inr (.inr (fun j => some (qh (x_pi j)))))))), (qn, .inr (1, [.int n_nodes, .int n_links, .int n_room, .int n_alive, .int n_inMap, .ref qn_low, .ref qn_high, .ref qn_length])), (qn_low, .inl (cI, 18, .inl n_low)), (qn_high, .inl (cI, 18, .inl n_high)), (qn_length, .inl (cI, 18, .inl n_length))] ++ k_hc cI qh qhl qhg qht h_C) := hD
    refine lv_aload_n hx hb dX5_execute_23 rfl (lv_at hl 0 rfl) ?_
    refine va_get (D := D) (ci := 5) (v := .ref qz) (C := RX5) (T := TX5) (N := 12) hx hb hu k_iX5 hown hK hP 6 rfl rfl 11 (by decide) (hu _ u_294) (fun _ h9 => h9) rfl dX5_execute_24 ?_
    refine k_callVV (qb := 0) [4] [0] [4] [(qz, .inr (3, [.ref qz_codes, .int z_size, .int ((f_X3_startReading o_2 o_3 o_4).1), .int ((f_X3_startReading o_2 o_3 o_4).2.1), .int ((f_X3_startReading o_2 o_3 o_4).2.2), .int o_5, .int o_6, .int o_7, .int o_8]))] (As := []) (rest := []) ⟨hx, hb, hml, hown, hts⟩ hT hZ hA hP hD hS (c_X3_startReading l D cI cZ cN aK aV qz qz_codes z_size o_2 o_3 o_4 o_5 o_6 o_7 o_8 _ _ _ rfl) ⟨callB_of 0 hts (k_good u_602) rfl rfl rfl (hu _ u_50) (hu _ u_599) (by decide +kernel) ⟨Nat.le_of_ble_eq_true rfl, Nat.le_of_ble_eq_true rfl⟩, hu _ u_600, hu _ u_601⟩ rfl rfl rfl (by decide) (by decide) (by decide) rfl rfl rfl rfl hl.1 rfl (Nat.le_of_ble_eq_true rfl) dX5_execute_27 (fun H locs hP hD hS => ?_)
    have hP : va_P D vwCl ([(qd, .inr (1, [.int o_11, .int o_12, .int o_13, .int o_14, .int o_15, .ref qd_low, .ref qd_high, .ref qd_length])), (qd_low, .inl (cI, 18, .inl o_16)), (qd_high, .inl (cI, 18, .inl o_17)), (qd_length, .inl (cI, 18, .inl o_18)), (qz, .inr (3, [.ref qz_codes, .int z_size, .int ((f_X3_startReading o_2 o_3 o_4).1), .int ((f_X3_startReading o_2 o_3 o_4).2.1), .int ((f_X3_startReading o_2 o_3 o_4).2.2), .int o_5, .int o_6, .int o_7, .int o_8])), (qz_codes, .inl (cI, 80, .inl z_codes)), (qx, .inr (5, [.ref qn, .ref qd, .ref qx_history, .int x_undoable, .ref qx_images, .ref qx_kept, .ref qy, .ref qt, .int x_letterSent, .int x_letterFits, .ref qv, .ref qz])), (qx_history, .inl (cN, 8, .inr (.inr (.inr (.inr (fun j => some (qh (x_pi j)))))))), (qn, .inr (1, [.int n_nodes, .int n_links, .int n_room, .int n_alive, .int n_inMap, .ref qn_low, .ref qn_high, .ref qn_length])), (qn_low, .inl (cI, 18, .inl n_low)), (qn_high, .inl (cI, 18, .inl n_high)), (qn_length, .inl (cI, 18, .inl n_length))] ++ k_hc cI qh qhl qhg qht h_C) H := hP
    have hD : va_D A ([(qd, .inr (1, [.int o_11, .int o_12, .int o_13, .int o_14, .int o_15, .ref qd_low, .ref qd_high, .ref qd_length])), (qd_low, .inl (cI, 18, .inl o_16)), (qd_high, .inl (cI, 18, .inl o_17)), (qd_length, .inl (cI, 18, .inl o_18)), (qz, .inr (3, [.ref qz_codes, .int z_size, .int ((f_X3_startReading o_2 o_3 o_4).1), .int ((f_X3_startReading o_2 o_3 o_4).2.1), .int ((f_X3_startReading o_2 o_3 o_4).2.2), .int o_5, .int o_6, .int o_7, .int o_8])), (qz_codes, .inl (cI, 80, .inl z_codes)), (qx, .inr (5, [.ref qn, .ref qd, .ref qx_history, .int x_undoable, .ref qx_images, .ref qx_kept, .ref qy, .ref qt, .int x_letterSent, .int x_letterFits, .ref qv, .ref qz])), (qx_history, .inl (cN, 8, .inr (.inr (.inr (.inr (fun j => some (qh (x_pi j)))))))), (qn, .inr (1, [.int n_nodes, .int n_links, .int n_room, .int n_alive, .int n_inMap, .ref qn_low, .ref qn_high, .ref qn_length])), (qn_low, .inl (cI, 18, .inl n_low)), (qn_high, .inl (cI, 18, .inl n_high)), (qn_length, .inl (cI, 18, .inl n_length))] ++ k_hc cI qh qhl qhg qht h_C) := hD
    refine lv_iconst (v := (0 : Int32)) hx hb dX5_execute_30 (by decide) ?_
    refine lv_istore_n (lv' := [(1, .int (0 : Int32)), (0, .ref qx)]) hx hb dX5_execute_31 rfl hl (by decide) rfl (fun ls hl => ?_)
    exact w32 1000 (0 : Int32) x_pi x_undoable x_letterFits n_nodes n_links n_room n_alive n_inMap n_low n_high n_length o_11 o_12 o_13 o_14 o_15 o_16 o_17 o_18 z_codes z_size ((f_X3_startReading o_2 o_3 o_4).1) ((f_X3_startReading o_2 o_3 o_4).2.1) ((f_X3_startReading o_2 o_3 o_4).2.2) o_5 o_6 o_7 o_8 h_C _ _ _ hP hD hS (lv_sub hl [1, 0] rfl) h
  · have h := (if_neg cc_10).symm.trans h
    refine lv_bipush (v := (-2 : Int32)) hx hb dX5_execute_9 (by decide) ?_
    have hq := Option.some.inj h
    clear h
    obtain ⟨e0, hq0⟩ := Prod.mk.inj hq
    clear hq
    obtain ⟨e1, hq1⟩ := Prod.mk.inj hq0
    clear hq0
    obtain ⟨e2, hq2⟩ := Prod.mk.inj hq1
    clear hq1
    obtain ⟨e3, hq3⟩ := Prod.mk.inj hq2
    clear hq2
    obtain ⟨e4, hq4⟩ := Prod.mk.inj hq3
    clear hq3
    obtain ⟨e5, hq5⟩ := Prod.mk.inj hq4
    clear hq4
    obtain ⟨e6, hq6⟩ := Prod.mk.inj hq5
    clear hq5
    obtain ⟨e7, hq7⟩ := Prod.mk.inj hq6
    clear hq6
    obtain ⟨e8, hq8⟩ := Prod.mk.inj hq7
    clear hq7
    obtain ⟨e9, hq9⟩ := Prod.mk.inj hq8
    clear hq8
    obtain ⟨e10, hq10⟩ := Prod.mk.inj hq9
    clear hq9
    obtain ⟨e11, hq11⟩ := Prod.mk.inj hq10
    clear hq10
    obtain ⟨e12, hq12⟩ := Prod.mk.inj hq11
    clear hq11
    obtain ⟨e13, hq13⟩ := Prod.mk.inj hq12
    clear hq12
    obtain ⟨e14, hq14⟩ := Prod.mk.inj hq13
    clear hq13
    obtain ⟨e15, hq15⟩ := Prod.mk.inj hq14
    clear hq14
    obtain ⟨e16, hq16⟩ := Prod.mk.inj hq15
    clear hq15
    obtain ⟨e17, hq17⟩ := Prod.mk.inj hq16
    clear hq16
    obtain ⟨e18, hq18⟩ := Prod.mk.inj hq17
    clear hq17
    obtain ⟨e19, hq19⟩ := Prod.mk.inj hq18
    clear hq18
    obtain ⟨e20, hq20⟩ := Prod.mk.inj hq19
    clear hq19
    obtain ⟨e21, hq21⟩ := Prod.mk.inj hq20
    clear hq20
    obtain ⟨e22, hq22⟩ := Prod.mk.inj hq21
    clear hq21
    obtain ⟨e23, hq23⟩ := Prod.mk.inj hq22
    clear hq22
    obtain ⟨e24, hq24⟩ := Prod.mk.inj hq23
    clear hq23
    obtain ⟨e25, hq25⟩ := Prod.mk.inj hq24
    clear hq24
    obtain ⟨e26, hq26⟩ := Prod.mk.inj hq25
    clear hq25
    subst e0
    subst e1
    subst e2
    subst e3
    subst e4
    subst e5
    subst e6
    subst e7
    subst e8
    subst e9
    subst e10
    subst e11
    subst e12
    subst e13
    subst e14
    subst e15
    subst e16
    subst e17
    subst e18
    subst e19
    subst e20
    subst e21
    subst e22
    subst e23
    subst e24
    subst e25
    subst e26
    subst hq26
    exact k_retI hx hb hr hlocks hP hD hS dX5_execute_11
def f_X5_keep (p1 : Int32) (x_kept : (Nat → Int32)) (n_nodes : Int32) (n_links : Int32) (n_room : Int32) (n_alive : Int32) (n_inMap : Int32) (n_low : (Nat → Int32)) (n_high : (Nat → Int32)) (n_length : (Nat → Int32)) (i_C : (Nat → NV)) : Option (Int32 × (Nat → Int32) × (Nat → NV)) :=
  if p1 < (0 : Int32) then
    some ((-1 : Int32), x_kept, i_C)
  else
    if p1 < (2 : Int32) then
      if inb p1 2 = true then
      if (Int32.toNatClampNeg p1) = 0 then
        (f_X1_copyFrom (i_C 0).1 (i_C 0).2.1 (i_C 0).2.2.1 (i_C 0).2.2.2.1 (i_C 0).2.2.2.2.1 (i_C 0).2.2.2.2.2.1 (i_C 0).2.2.2.2.2.2.1 (i_C 0).2.2.2.2.2.2.2 n_nodes n_links n_room n_alive n_inMap n_low n_high n_length).bind fun ⟨o_4, o_5, o_6, o_7, o_8, o_9, o_10, o_11⟩ =>
        some (n_links, (upd x_kept (Int32.toNatClampNeg p1) (1 : Int32)), (va_up i_C 0 (o_4, o_5, o_6, o_7, o_8, o_9, o_10, o_11)))
      else
      if (Int32.toNatClampNeg p1) = 1 then
        (f_X1_copyFrom (i_C 1).1 (i_C 1).2.1 (i_C 1).2.2.1 (i_C 1).2.2.2.1 (i_C 1).2.2.2.2.1 (i_C 1).2.2.2.2.2.1 (i_C 1).2.2.2.2.2.2.1 (i_C 1).2.2.2.2.2.2.2 n_nodes n_links n_room n_alive n_inMap n_low n_high n_length).bind fun ⟨o_13, o_14, o_15, o_16, o_17, o_18, o_19, o_20⟩ =>
        some (n_links, (upd x_kept (Int32.toNatClampNeg p1) (1 : Int32)), (va_up i_C 1 (o_13, o_14, o_15, o_16, o_17, o_18, o_19, o_20)))
      else
      none
      else none
    else
      some ((-1 : Int32), x_kept, i_C)
set_option maxHeartbeats 4000000 in
set_option maxRecDepth 100000 in
theorem c_X5_keep (l : Launch) (D : va_G) (cI cZ cN : ClassId) (aK aV : Nat → Nat)  (qx : Nat) (qx_history : Nat) (qx_images : Nat) (qx_kept : Nat) (qn : Nat) (qn_low : Nat) (qn_high : Nat) (qn_length : Nat) (qd : Nat) (qy : Nat) (qt : Nat) (qv : Nat) (qz : Nat) (qi : Nat → Nat) (qil : Nat → Nat) (qig : Nat → Nat) (qit : Nat → Nat) (x_undoable : Int32) (x_kept : (Nat → Int32)) (x_letterSent : Int32) (x_letterFits : Int32) (n_nodes : Int32) (n_links : Int32) (n_room : Int32) (n_alive : Int32) (n_inMap : Int32) (n_low : (Nat → Int32)) (n_high : (Nat → Int32)) (n_length : (Nat → Int32)) (i_C : (Nat → NV)) (p1 : Int32) (r : Int32) (z_x_kept : (Nat → Int32)) (z_i_C : (Nat → NV)) (h : f_X5_keep p1 x_kept n_nodes n_links n_room n_alive n_inMap n_low n_high n_length i_C = some (r, z_x_kept, z_i_C)) : CtI l D cI cZ cN aK aV yX5_keep (k_W yX5_keep cX5_keep 2 (some .int)) { frames := 1, cells := 0, slots := 0, locals := 22 } [.ref qx, .int p1] ([(qx_images, .inl (cN, 2, .inr (.inr (.inr (.inr (fun j => some (qi j))))))), (qx_kept, .inl (cZ, 2, .inl x_kept))] ++ (k_ic cI qi qil qig qit i_C ++ [(qx, .inr (5, [.ref qn, .ref qd, .ref qx_history, .int x_undoable, .ref qx_images, .ref qx_kept, .ref qy, .ref qt, .int x_letterSent, .int x_letterFits, .ref qv, .ref qz])), (qn, .inr (1, [.int n_nodes, .int n_links, .int n_room, .int n_alive, .int n_inMap, .ref qn_low, .ref qn_high, .ref qn_length])), (qn_low, .inl (cI, 18, .inl n_low)), (qn_high, .inl (cI, 18, .inl n_high)), (qn_length, .inl (cI, 18, .inl n_length))])) r ([(qx_images, .inl (cN, 2, .inr (.inr (.inr (.inr (fun j => some (qi j))))))), (qx_kept, .inl (cZ, 2, .inl z_x_kept))] ++ (k_ic cI qi qil qig qit z_i_C ++ [(qx, .inr (5, [.ref qn, .ref qd, .ref qx_history, .int x_undoable, .ref qx_images, .ref qx_kept, .ref qy, .ref qt, .int x_letterSent, .int x_letterFits, .ref qv, .ref qz])), (qn, .inr (1, [.int n_nodes, .int n_links, .int n_room, .int n_alive, .int n_inMap, .ref qn_low, .ref qn_high, .ref qn_length])), (qn_low, .inl (cI, 18, .inl n_low)), (qn_high, .inl (cI, 18, .inl n_high)), (qn_length, .inl (cI, 18, .inl n_length))])) := by
  refine k_startI (by decide) (Nat.le_of_ble_eq_true rfl) ?_
  intro p e s m below meth c A ls hx hb hr hml hown hts hlocks hT hZ hA hP hD hS hl
  have hK := hT.1
  have hu : ∀ w ∈ k_U, w.before ([.ref qx, .int p1] : List Value).toArray s = true := fun w h => hts w (List.mem_cons_of_mem _ h)
  have hown : s.vm.findClass RX5 = some m.cls := hown
  have hl : lv_has ls 2 [(0, .ref qx), (1, .int p1)] := hl
  unfold f_X5_keep at h
  refine lv_iload_n hx hb dX5_keep_0 rfl (lv_at hl 1 rfl) ?_
  refine lv_if_lt (tgt := 9) hx hb dX5_keep_1 (by decide) (fun cc_1 => ?_) (fun cc_1 => ?_)
  · have h := (if_pos cc_1).symm.trans h
    refine lv_iconst (v := (-1 : Int32)) hx hb dX5_keep_9 (by decide) ?_
    have hq := Option.some.inj h
    clear h
    obtain ⟨e0, hq0⟩ := Prod.mk.inj hq
    clear hq
    obtain ⟨e1, hq1⟩ := Prod.mk.inj hq0
    clear hq0
    subst e0
    subst e1
    subst hq1
    exact k_retI hx hb hr hlocks hP hD hS dX5_keep_10
  · have h := (if_neg cc_1).symm.trans h
    refine lv_iload_n hx hb dX5_keep_4 rfl (lv_at hl 1 rfl) ?_
    refine lv_iconst (v := (2 : Int32)) hx hb dX5_keep_5 (by decide) ?_
    refine lv_icmp_lt (tgt := 11) hx hb dX5_keep_6 (by decide) (fun cc_2 => ?_) (fun cc_2 => ?_)
    · have h := (if_pos cc_2).symm.trans h
      refine lv_aload_n hx hb dX5_keep_11 rfl (lv_at hl 0 rfl) ?_
      refine va_get (D := D) (ci := 5) (v := .ref qx_images) (C := RX5) (T := TX5) (N := 12) hx hb hu k_iX5 hown hK hP 10 rfl rfl 4 (by decide) (hu _ u_287) (fun _ h9 => h9) rfl dX5_keep_12 ?_
      refine lv_iload_n hx hb dX5_keep_15 rfl (lv_at hl 1 rfl) ?_
      obtain ⟨hin_3, h⟩ := ob_if h
      have hin_3 := inb_in hin_3
      refine va_aldq (D := D) hx hb hK hP 0 2 rfl rfl hin_3 dX5_keep_16 ?_
      by_cases sp_22 : (Int32.toNatClampNeg p1) = 0
      · have h := (if_pos sp_22).symm.trans h
        refine W.eq (g2 := F0 m 17 ls [.ref (qi 0)]) (by show F0 m _ ls (.ref (qi (Int32.toNatClampNeg p1)) :: _) = _; rw [sp_22]) ?_
        refine lv_aload_n hx hb dX5_keep_17 rfl (lv_at hl 0 rfl) ?_
        refine va_get (D := D) (ci := 5) (v := .ref qn) (C := RX5) (T := TX5) (N := 12) hx hb hu k_iX5 hown hK hP 10 rfl rfl 0 (by decide) (hu _ u_283) (fun _ h9 => h9) rfl dX5_keep_18 ?_
        obtain ⟨⟨o_4, o_5, o_6, o_7, o_8, o_9, o_10, o_11⟩, hc_12, h⟩ := ob_bind h
        dsimp only at h
        refine k_callVV (qb := 0) [2, 3, 4, 5, 11, 12, 13, 14] [0, 1, 2, 3] [2, 3, 4, 5] [((qi 0), .inr (1, [.int ((va_up i_C 0 (o_4, o_5, o_6, o_7, o_8, o_9, o_10, o_11)) 0).1, .int ((va_up i_C 0 (o_4, o_5, o_6, o_7, o_8, o_9, o_10, o_11)) 0).2.1, .int ((va_up i_C 0 (o_4, o_5, o_6, o_7, o_8, o_9, o_10, o_11)) 0).2.2.1, .int ((va_up i_C 0 (o_4, o_5, o_6, o_7, o_8, o_9, o_10, o_11)) 0).2.2.2.1, .int ((va_up i_C 0 (o_4, o_5, o_6, o_7, o_8, o_9, o_10, o_11)) 0).2.2.2.2.1, .ref (qil 0), .ref (qig 0), .ref (qit 0)])), ((qil 0), .inl (cI, 18, .inl ((va_up i_C 0 (o_4, o_5, o_6, o_7, o_8, o_9, o_10, o_11)) 0).2.2.2.2.2.1)), ((qig 0), .inl (cI, 18, .inl ((va_up i_C 0 (o_4, o_5, o_6, o_7, o_8, o_9, o_10, o_11)) 0).2.2.2.2.2.2.1)), ((qit 0), .inl (cI, 18, .inl ((va_up i_C 0 (o_4, o_5, o_6, o_7, o_8, o_9, o_10, o_11)) 0).2.2.2.2.2.2.2))] (As := [.ref qn]) (rest := []) ⟨hx, hb, hml, hown, hts⟩ hT hZ hA hP hD hS (c_X1_copyFrom l D cI cZ cN aK aV (qi 0) (qil 0) (qig 0) (qit 0) qn qn_low qn_high qn_length (i_C 0).1 (i_C 0).2.1 (i_C 0).2.2.1 (i_C 0).2.2.2.1 (i_C 0).2.2.2.2.1 (i_C 0).2.2.2.2.2.1 (i_C 0).2.2.2.2.2.2.1 (i_C 0).2.2.2.2.2.2.2 n_nodes n_links n_room n_alive n_inMap n_low n_high n_length o_4 o_5 o_6 o_7 o_8 o_9 o_10 o_11 hc_12) ⟨callB_of 1 hts (k_good u_335) rfl rfl rfl (hu _ u_46) (hu _ u_332) (by decide +kernel) ⟨Nat.le_of_ble_eq_true rfl, Nat.le_of_ble_eq_true rfl⟩, hu _ u_333, hu _ u_334⟩ rfl rfl rfl (by decide) (by decide) (by decide) rfl rfl rfl rfl hl.1 rfl (Nat.le_of_ble_eq_true rfl) dX5_keep_21 (fun H locs hP hD hS => ?_)
        have hP : va_P D vwCl ([(qx_images, .inl (cN, 2, .inr (.inr (.inr (.inr (fun j => some (qi j))))))), (qx_kept, .inl (cZ, 2, .inl x_kept))] ++ (k_ic cI qi qil qig qit (va_up i_C 0 (o_4, o_5, o_6, o_7, o_8, o_9, o_10, o_11)) ++ [(qx, .inr (5, [.ref qn, .ref qd, .ref qx_history, .int x_undoable, .ref qx_images, .ref qx_kept, .ref qy, .ref qt, .int x_letterSent, .int x_letterFits, .ref qv, .ref qz])), (qn, .inr (1, [.int n_nodes, .int n_links, .int n_room, .int n_alive, .int n_inMap, .ref qn_low, .ref qn_high, .ref qn_length])), (qn_low, .inl (cI, 18, .inl n_low)), (qn_high, .inl (cI, 18, .inl n_high)), (qn_length, .inl (cI, 18, .inl n_length))])) H := hP
        have hD : va_D A ([(qx_images, .inl (cN, 2, .inr (.inr (.inr (.inr (fun j => some (qi j))))))), (qx_kept, .inl (cZ, 2, .inl x_kept))] ++ (k_ic cI qi qil qig qit (va_up i_C 0 (o_4, o_5, o_6, o_7, o_8, o_9, o_10, o_11)) ++ [(qx, .inr (5, [.ref qn, .ref qd, .ref qx_history, .int x_undoable, .ref qx_images, .ref qx_kept, .ref qy, .ref qt, .int x_letterSent, .int x_letterFits, .ref qv, .ref qz])), (qn, .inr (1, [.int n_nodes, .int n_links, .int n_room, .int n_alive, .int n_inMap, .ref qn_low, .ref qn_high, .ref qn_length])), (qn_low, .inl (cI, 18, .inl n_low)), (qn_high, .inl (cI, 18, .inl n_high)), (qn_length, .inl (cI, 18, .inl n_length))])) := hD
        refine lv_aload_n hx hb dX5_keep_24 rfl (lv_at hl 0 rfl) ?_
        refine va_get (D := D) (ci := 5) (v := .ref qx_kept) (C := RX5) (T := TX5) (N := 12) hx hb hu k_iX5 hown hK hP 10 rfl rfl 5 (by decide) (hu _ u_288) (fun _ h9 => h9) rfl dX5_keep_25 ?_
        refine lv_iload_n hx hb dX5_keep_28 rfl (lv_at hl 1 rfl) ?_
        refine lv_iconst (v := (1 : Int32)) hx hb dX5_keep_29 (by decide) ?_
        refine va_zast (D := D) hx hb hK hP hD hS 1 1 rfl rfl hin_3 dX5_keep_30 (fun H locs hP hD hS => ?_)
        have hP : va_P D vwCl ([(qx_images, .inl (cN, 2, .inr (.inr (.inr (.inr (fun j => some (qi j))))))), (qx_kept, .inl (cZ, 2, .inl (upd x_kept (Int32.toNatClampNeg p1) (1 : Int32))))] ++ (k_ic cI qi qil qig qit (va_up i_C 0 (o_4, o_5, o_6, o_7, o_8, o_9, o_10, o_11)) ++ [(qx, .inr (5, [.ref qn, .ref qd, .ref qx_history, .int x_undoable, .ref qx_images, .ref qx_kept, .ref qy, .ref qt, .int x_letterSent, .int x_letterFits, .ref qv, .ref qz])), (qn, .inr (1, [.int n_nodes, .int n_links, .int n_room, .int n_alive, .int n_inMap, .ref qn_low, .ref qn_high, .ref qn_length])), (qn_low, .inl (cI, 18, .inl n_low)), (qn_high, .inl (cI, 18, .inl n_high)), (qn_length, .inl (cI, 18, .inl n_length))])) H := hP
        have hD : va_D A ([(qx_images, .inl (cN, 2, .inr (.inr (.inr (.inr (fun j => some (qi j))))))), (qx_kept, .inl (cZ, 2, .inl (upd x_kept (Int32.toNatClampNeg p1) (1 : Int32))))] ++ (k_ic cI qi qil qig qit (va_up i_C 0 (o_4, o_5, o_6, o_7, o_8, o_9, o_10, o_11)) ++ [(qx, .inr (5, [.ref qn, .ref qd, .ref qx_history, .int x_undoable, .ref qx_images, .ref qx_kept, .ref qy, .ref qt, .int x_letterSent, .int x_letterFits, .ref qv, .ref qz])), (qn, .inr (1, [.int n_nodes, .int n_links, .int n_room, .int n_alive, .int n_inMap, .ref qn_low, .ref qn_high, .ref qn_length])), (qn_low, .inl (cI, 18, .inl n_low)), (qn_high, .inl (cI, 18, .inl n_high)), (qn_length, .inl (cI, 18, .inl n_length))])) := hD
        refine lv_aload_n hx hb dX5_keep_31 rfl (lv_at hl 0 rfl) ?_
        refine va_get (D := D) (ci := 5) (v := .ref qn) (C := RX5) (T := TX5) (N := 12) hx hb hu k_iX5 hown hK hP 10 rfl rfl 0 (by decide) (hu _ u_283) (fun _ h9 => h9) rfl dX5_keep_32 ?_
        refine va_get (D := D) (ci := 1) (v := .int n_links) (C := RX1) (T := TX1) (N := 8) hx hb hu k_iX1 hown hK hP 11 rfl rfl 1 (by decide) (hu _ u_78) (fun _ h9 => h9) rfl dX5_keep_35 ?_
        have hq := Option.some.inj h
        clear h
        obtain ⟨e0, hq0⟩ := Prod.mk.inj hq
        clear hq
        obtain ⟨e1, hq1⟩ := Prod.mk.inj hq0
        clear hq0
        subst e0
        subst e1
        subst hq1
        exact k_retI hx hb hr hlocks hP hD hS dX5_keep_38
      have h := (if_neg sp_22).symm.trans h
      by_cases sp_23 : (Int32.toNatClampNeg p1) = 1
      · have h := (if_pos sp_23).symm.trans h
        refine W.eq (g2 := F0 m 17 ls [.ref (qi 1)]) (by show F0 m _ ls (.ref (qi (Int32.toNatClampNeg p1)) :: _) = _; rw [sp_23]) ?_
        refine lv_aload_n hx hb dX5_keep_17 rfl (lv_at hl 0 rfl) ?_
        refine va_get (D := D) (ci := 5) (v := .ref qn) (C := RX5) (T := TX5) (N := 12) hx hb hu k_iX5 hown hK hP 10 rfl rfl 0 (by decide) (hu _ u_283) (fun _ h9 => h9) rfl dX5_keep_18 ?_
        obtain ⟨⟨o_13, o_14, o_15, o_16, o_17, o_18, o_19, o_20⟩, hc_21, h⟩ := ob_bind h
        dsimp only at h
        refine k_callVV (qb := 0) [6, 7, 8, 9, 11, 12, 13, 14] [0, 1, 2, 3] [6, 7, 8, 9] [((qi 1), .inr (1, [.int ((va_up i_C 1 (o_13, o_14, o_15, o_16, o_17, o_18, o_19, o_20)) 1).1, .int ((va_up i_C 1 (o_13, o_14, o_15, o_16, o_17, o_18, o_19, o_20)) 1).2.1, .int ((va_up i_C 1 (o_13, o_14, o_15, o_16, o_17, o_18, o_19, o_20)) 1).2.2.1, .int ((va_up i_C 1 (o_13, o_14, o_15, o_16, o_17, o_18, o_19, o_20)) 1).2.2.2.1, .int ((va_up i_C 1 (o_13, o_14, o_15, o_16, o_17, o_18, o_19, o_20)) 1).2.2.2.2.1, .ref (qil 1), .ref (qig 1), .ref (qit 1)])), ((qil 1), .inl (cI, 18, .inl ((va_up i_C 1 (o_13, o_14, o_15, o_16, o_17, o_18, o_19, o_20)) 1).2.2.2.2.2.1)), ((qig 1), .inl (cI, 18, .inl ((va_up i_C 1 (o_13, o_14, o_15, o_16, o_17, o_18, o_19, o_20)) 1).2.2.2.2.2.2.1)), ((qit 1), .inl (cI, 18, .inl ((va_up i_C 1 (o_13, o_14, o_15, o_16, o_17, o_18, o_19, o_20)) 1).2.2.2.2.2.2.2))] (As := [.ref qn]) (rest := []) ⟨hx, hb, hml, hown, hts⟩ hT hZ hA hP hD hS (c_X1_copyFrom l D cI cZ cN aK aV (qi 1) (qil 1) (qig 1) (qit 1) qn qn_low qn_high qn_length (i_C 1).1 (i_C 1).2.1 (i_C 1).2.2.1 (i_C 1).2.2.2.1 (i_C 1).2.2.2.2.1 (i_C 1).2.2.2.2.2.1 (i_C 1).2.2.2.2.2.2.1 (i_C 1).2.2.2.2.2.2.2 n_nodes n_links n_room n_alive n_inMap n_low n_high n_length o_13 o_14 o_15 o_16 o_17 o_18 o_19 o_20 hc_21) ⟨callB_of 1 hts (k_good u_335) rfl rfl rfl (hu _ u_46) (hu _ u_332) (by decide +kernel) ⟨Nat.le_of_ble_eq_true rfl, Nat.le_of_ble_eq_true rfl⟩, hu _ u_333, hu _ u_334⟩ rfl rfl rfl (by decide) (by decide) (by decide) rfl rfl rfl rfl hl.1 rfl (Nat.le_of_ble_eq_true rfl) dX5_keep_21 (fun H locs hP hD hS => ?_)
        have hP : va_P D vwCl ([(qx_images, .inl (cN, 2, .inr (.inr (.inr (.inr (fun j => some (qi j))))))), (qx_kept, .inl (cZ, 2, .inl x_kept))] ++ (k_ic cI qi qil qig qit (va_up i_C 1 (o_13, o_14, o_15, o_16, o_17, o_18, o_19, o_20)) ++ [(qx, .inr (5, [.ref qn, .ref qd, .ref qx_history, .int x_undoable, .ref qx_images, .ref qx_kept, .ref qy, .ref qt, .int x_letterSent, .int x_letterFits, .ref qv, .ref qz])), (qn, .inr (1, [.int n_nodes, .int n_links, .int n_room, .int n_alive, .int n_inMap, .ref qn_low, .ref qn_high, .ref qn_length])), (qn_low, .inl (cI, 18, .inl n_low)), (qn_high, .inl (cI, 18, .inl n_high)), (qn_length, .inl (cI, 18, .inl n_length))])) H := hP
        have hD : va_D A ([(qx_images, .inl (cN, 2, .inr (.inr (.inr (.inr (fun j => some (qi j))))))), (qx_kept, .inl (cZ, 2, .inl x_kept))] ++ (k_ic cI qi qil qig qit (va_up i_C 1 (o_13, o_14, o_15, o_16, o_17, o_18, o_19, o_20)) ++ [(qx, .inr (5, [.ref qn, .ref qd, .ref qx_history, .int x_undoable, .ref qx_images, .ref qx_kept, .ref qy, .ref qt, .int x_letterSent, .int x_letterFits, .ref qv, .ref qz])), (qn, .inr (1, [.int n_nodes, .int n_links, .int n_room, .int n_alive, .int n_inMap, .ref qn_low, .ref qn_high, .ref qn_length])), (qn_low, .inl (cI, 18, .inl n_low)), (qn_high, .inl (cI, 18, .inl n_high)), (qn_length, .inl (cI, 18, .inl n_length))])) := hD
        refine lv_aload_n hx hb dX5_keep_24 rfl (lv_at hl 0 rfl) ?_
        refine va_get (D := D) (ci := 5) (v := .ref qx_kept) (C := RX5) (T := TX5) (N := 12) hx hb hu k_iX5 hown hK hP 10 rfl rfl 5 (by decide) (hu _ u_288) (fun _ h9 => h9) rfl dX5_keep_25 ?_
        refine lv_iload_n hx hb dX5_keep_28 rfl (lv_at hl 1 rfl) ?_
        refine lv_iconst (v := (1 : Int32)) hx hb dX5_keep_29 (by decide) ?_
        refine va_zast (D := D) hx hb hK hP hD hS 1 1 rfl rfl hin_3 dX5_keep_30 (fun H locs hP hD hS => ?_)
        have hP : va_P D vwCl ([(qx_images, .inl (cN, 2, .inr (.inr (.inr (.inr (fun j => some (qi j))))))), (qx_kept, .inl (cZ, 2, .inl (upd x_kept (Int32.toNatClampNeg p1) (1 : Int32))))] ++ (k_ic cI qi qil qig qit (va_up i_C 1 (o_13, o_14, o_15, o_16, o_17, o_18, o_19, o_20)) ++ [(qx, .inr (5, [.ref qn, .ref qd, .ref qx_history, .int x_undoable, .ref qx_images, .ref qx_kept, .ref qy, .ref qt, .int x_letterSent, .int x_letterFits, .ref qv, .ref qz])), (qn, .inr (1, [.int n_nodes, .int n_links, .int n_room, .int n_alive, .int n_inMap, .ref qn_low, .ref qn_high, .ref qn_length])), (qn_low, .inl (cI, 18, .inl n_low)), (qn_high, .inl (cI, 18, .inl n_high)), (qn_length, .inl (cI, 18, .inl n_length))])) H := hP
        have hD : va_D A ([(qx_images, .inl (cN, 2, .inr (.inr (.inr (.inr (fun j => some (qi j))))))), (qx_kept, .inl (cZ, 2, .inl (upd x_kept (Int32.toNatClampNeg p1) (1 : Int32))))] ++ (k_ic cI qi qil qig qit (va_up i_C 1 (o_13, o_14, o_15, o_16, o_17, o_18, o_19, o_20)) ++ [(qx, .inr (5, [.ref qn, .ref qd, .ref qx_history, .int x_undoable, .ref qx_images, .ref qx_kept, .ref qy, .ref qt, .int x_letterSent, .int x_letterFits, .ref qv, .ref qz])), (qn, .inr (1, [.int n_nodes, .int n_links, .int n_room, .int n_alive, .int n_inMap, .ref qn_low, .ref qn_high, .ref qn_length])), (qn_low, .inl (cI, 18, .inl n_low)), (qn_high, .inl (cI, 18, .inl n_high)), (qn_length, .inl (cI, 18, .inl n_length))])) := hD
        refine lv_aload_n hx hb dX5_keep_31 rfl (lv_at hl 0 rfl) ?_
        refine va_get (D := D) (ci := 5) (v := .ref qn) (C := RX5) (T := TX5) (N := 12) hx hb hu k_iX5 hown hK hP 10 rfl rfl 0 (by decide) (hu _ u_283) (fun _ h9 => h9) rfl dX5_keep_32 ?_
        refine va_get (D := D) (ci := 1) (v := .int n_links) (C := RX1) (T := TX1) (N := 8) hx hb hu k_iX1 hown hK hP 11 rfl rfl 1 (by decide) (hu _ u_78) (fun _ h9 => h9) rfl dX5_keep_35 ?_
        have hq := Option.some.inj h
        clear h
        obtain ⟨e0, hq0⟩ := Prod.mk.inj hq
        clear hq
        obtain ⟨e1, hq1⟩ := Prod.mk.inj hq0
        clear hq0
        subst e0
        subst e1
        subst hq1
        exact k_retI hx hb hr hlocks hP hD hS dX5_keep_38
      have h := (if_neg sp_23).symm.trans h
      cases h
    · have h := (if_neg cc_2).symm.trans h
      refine lv_iconst (v := (-1 : Int32)) hx hb dX5_keep_9 (by decide) ?_
      have hq := Option.some.inj h
      clear h
      obtain ⟨e0, hq0⟩ := Prod.mk.inj hq
      clear hq
      obtain ⟨e1, hq1⟩ := Prod.mk.inj hq0
      clear hq0
      subst e0
      subst e1
      subst hq1
      exact k_retI hx hb hr hlocks hP hD hS dX5_keep_10
def f_X5_back (p1 : Int32) (x_pi : (Nat → Nat)) (x_undoable : Int32) (x_kept : (Nat → Int32)) (x_letterFits : Int32) (n_nodes : Int32) (n_links : Int32) (n_room : Int32) (n_alive : Int32) (n_inMap : Int32) (n_low : (Nat → Int32)) (n_high : (Nat → Int32)) (n_length : (Nat → Int32)) (h_C : (Nat → NV)) (i_C : (Nat → NV)) : Option (Int32 × (Nat → Nat) × Int32 × Int32 × Int32 × Int32 × Int32 × Int32 × Int32 × (Nat → Int32) × (Nat → Int32) × (Nat → Int32) × (Nat → NV)) :=
  if p1 < (0 : Int32) then
    some ((-1 : Int32), x_pi, x_undoable, x_letterFits, n_nodes, n_links, n_room, n_alive, n_inMap, n_low, n_high, n_length, h_C)
  else
    if p1 < (2 : Int32) then
      if inb p1 2 = true then
      if (x_kept (Int32.toNatClampNeg p1)) = (0 : Int32) then
        some ((-2 : Int32), x_pi, x_undoable, x_letterFits, n_nodes, n_links, n_room, n_alive, n_inMap, n_low, n_high, n_length, h_C)
      else
        (f_X5_recordState x_pi x_undoable n_nodes n_links n_room n_alive n_inMap n_low n_high n_length h_C).bind fun ⟨o_5, o_6, o_7⟩ =>
        if (Int32.toNatClampNeg p1) = 0 then
          (f_X1_copyFrom n_nodes n_links n_room n_alive n_inMap n_low n_high n_length (i_C 0).1 (i_C 0).2.1 (i_C 0).2.2.1 (i_C 0).2.2.2.1 (i_C 0).2.2.2.2.1 (i_C 0).2.2.2.2.2.1 (i_C 0).2.2.2.2.2.2.1 (i_C 0).2.2.2.2.2.2.2).bind fun ⟨o_9, o_10, o_11, o_12, o_13, o_14, o_15, o_16⟩ =>
          some (o_10, o_5, o_6, (0 : Int32), o_9, o_10, o_11, o_12, o_13, o_14, o_15, o_16, o_7)
        else
        if (Int32.toNatClampNeg p1) = 1 then
          (f_X1_copyFrom n_nodes n_links n_room n_alive n_inMap n_low n_high n_length (i_C 1).1 (i_C 1).2.1 (i_C 1).2.2.1 (i_C 1).2.2.2.1 (i_C 1).2.2.2.2.1 (i_C 1).2.2.2.2.2.1 (i_C 1).2.2.2.2.2.2.1 (i_C 1).2.2.2.2.2.2.2).bind fun ⟨o_18, o_19, o_20, o_21, o_22, o_23, o_24, o_25⟩ =>
          some (o_19, o_5, o_6, (0 : Int32), o_18, o_19, o_20, o_21, o_22, o_23, o_24, o_25, o_7)
        else
        none
      else none
    else
      some ((-1 : Int32), x_pi, x_undoable, x_letterFits, n_nodes, n_links, n_room, n_alive, n_inMap, n_low, n_high, n_length, h_C)
set_option maxHeartbeats 4000000 in
set_option maxRecDepth 100000 in
theorem c_X5_back (l : Launch) (D : va_G) (cI cZ cN : ClassId) (aK aV : Nat → Nat)  (qx : Nat) (qx_history : Nat) (qx_images : Nat) (qx_kept : Nat) (qn : Nat) (qn_low : Nat) (qn_high : Nat) (qn_length : Nat) (qd : Nat) (qy : Nat) (qt : Nat) (qv : Nat) (qz : Nat) (qh : Nat → Nat) (qhl : Nat → Nat) (qhg : Nat → Nat) (qht : Nat → Nat) (qi : Nat → Nat) (qil : Nat → Nat) (qig : Nat → Nat) (qit : Nat → Nat) (x_pi : (Nat → Nat)) (x_undoable : Int32) (x_kept : (Nat → Int32)) (x_letterSent : Int32) (x_letterFits : Int32) (n_nodes : Int32) (n_links : Int32) (n_room : Int32) (n_alive : Int32) (n_inMap : Int32) (n_low : (Nat → Int32)) (n_high : (Nat → Int32)) (n_length : (Nat → Int32)) (h_C : (Nat → NV)) (i_C : (Nat → NV)) (p1 : Int32) (r : Int32) (z_x_pi : (Nat → Nat)) (z_x_undoable : Int32) (z_x_letterFits : Int32) (z_n_nodes : Int32) (z_n_links : Int32) (z_n_room : Int32) (z_n_alive : Int32) (z_n_inMap : Int32) (z_n_low : (Nat → Int32)) (z_n_high : (Nat → Int32)) (z_n_length : (Nat → Int32)) (z_h_C : (Nat → NV)) (h : f_X5_back p1 x_pi x_undoable x_kept x_letterFits n_nodes n_links n_room n_alive n_inMap n_low n_high n_length h_C i_C = some (r, z_x_pi, z_x_undoable, z_x_letterFits, z_n_nodes, z_n_links, z_n_room, z_n_alive, z_n_inMap, z_n_low, z_n_high, z_n_length, z_h_C)) : CtI l D cI cZ cN aK aV yX5_back (k_W yX5_back cX5_back 2 (some .int)) { frames := 2, cells := 0, slots := 0, locals := 42 } [.ref qx, .int p1] ([(qx_images, .inl (cN, 2, .inr (.inr (.inr (.inr (fun j => some (qi j))))))), (qx_kept, .inl (cZ, 2, .inl x_kept))] ++ (k_ic cI qi qil qig qit i_C ++ ([(qx, .inr (5, [.ref qn, .ref qd, .ref qx_history, .int x_undoable, .ref qx_images, .ref qx_kept, .ref qy, .ref qt, .int x_letterSent, .int x_letterFits, .ref qv, .ref qz])), (qx_history, .inl (cN, 8, .inr (.inr (.inr (.inr (fun j => some (qh (x_pi j)))))))), (qn, .inr (1, [.int n_nodes, .int n_links, .int n_room, .int n_alive, .int n_inMap, .ref qn_low, .ref qn_high, .ref qn_length])), (qn_low, .inl (cI, 18, .inl n_low)), (qn_high, .inl (cI, 18, .inl n_high)), (qn_length, .inl (cI, 18, .inl n_length))] ++ k_hc cI qh qhl qhg qht h_C))) r ([(qx_images, .inl (cN, 2, .inr (.inr (.inr (.inr (fun j => some (qi j))))))), (qx_kept, .inl (cZ, 2, .inl x_kept))] ++ (k_ic cI qi qil qig qit i_C ++ ([(qx, .inr (5, [.ref qn, .ref qd, .ref qx_history, .int z_x_undoable, .ref qx_images, .ref qx_kept, .ref qy, .ref qt, .int x_letterSent, .int z_x_letterFits, .ref qv, .ref qz])), (qx_history, .inl (cN, 8, .inr (.inr (.inr (.inr (fun j => some (qh (z_x_pi j)))))))), (qn, .inr (1, [.int z_n_nodes, .int z_n_links, .int z_n_room, .int z_n_alive, .int z_n_inMap, .ref qn_low, .ref qn_high, .ref qn_length])), (qn_low, .inl (cI, 18, .inl z_n_low)), (qn_high, .inl (cI, 18, .inl z_n_high)), (qn_length, .inl (cI, 18, .inl z_n_length))] ++ k_hc cI qh qhl qhg qht z_h_C))) := by
  refine k_startI (by decide) (Nat.le_of_ble_eq_true rfl) ?_
  intro p e s m below meth c A ls hx hb hr hml hown hts hlocks hT hZ hA hP hD hS hl
  have hK := hT.1
  have hu : ∀ w ∈ k_U, w.before ([.ref qx, .int p1] : List Value).toArray s = true := fun w h => hts w (List.mem_cons_of_mem _ h)
  have hown : s.vm.findClass RX5 = some m.cls := hown
  have hl : lv_has ls 2 [(0, .ref qx), (1, .int p1)] := hl
  unfold f_X5_back at h
  refine lv_iload_n hx hb dX5_back_0 rfl (lv_at hl 1 rfl) ?_
  refine lv_if_lt (tgt := 9) hx hb dX5_back_1 (by decide) (fun cc_1 => ?_) (fun cc_1 => ?_)
  · have h := (if_pos cc_1).symm.trans h
    refine lv_iconst (v := (-1 : Int32)) hx hb dX5_back_9 (by decide) ?_
    have hq := Option.some.inj h
    clear h
    obtain ⟨e0, hq0⟩ := Prod.mk.inj hq
    clear hq
    obtain ⟨e1, hq1⟩ := Prod.mk.inj hq0
    clear hq0
    obtain ⟨e2, hq2⟩ := Prod.mk.inj hq1
    clear hq1
    obtain ⟨e3, hq3⟩ := Prod.mk.inj hq2
    clear hq2
    obtain ⟨e4, hq4⟩ := Prod.mk.inj hq3
    clear hq3
    obtain ⟨e5, hq5⟩ := Prod.mk.inj hq4
    clear hq4
    obtain ⟨e6, hq6⟩ := Prod.mk.inj hq5
    clear hq5
    obtain ⟨e7, hq7⟩ := Prod.mk.inj hq6
    clear hq6
    obtain ⟨e8, hq8⟩ := Prod.mk.inj hq7
    clear hq7
    obtain ⟨e9, hq9⟩ := Prod.mk.inj hq8
    clear hq8
    obtain ⟨e10, hq10⟩ := Prod.mk.inj hq9
    clear hq9
    obtain ⟨e11, hq11⟩ := Prod.mk.inj hq10
    clear hq10
    subst e0
    subst e1
    subst e2
    subst e3
    subst e4
    subst e5
    subst e6
    subst e7
    subst e8
    subst e9
    subst e10
    subst e11
    subst hq11
    exact k_retI hx hb hr hlocks hP hD hS dX5_back_10
  · have h := (if_neg cc_1).symm.trans h
    refine lv_iload_n hx hb dX5_back_4 rfl (lv_at hl 1 rfl) ?_
    refine lv_iconst (v := (2 : Int32)) hx hb dX5_back_5 (by decide) ?_
    refine lv_icmp_lt (tgt := 11) hx hb dX5_back_6 (by decide) (fun cc_2 => ?_) (fun cc_2 => ?_)
    · have h := (if_pos cc_2).symm.trans h
      refine lv_aload_n hx hb dX5_back_11 rfl (lv_at hl 0 rfl) ?_
      refine va_get (D := D) (ci := 5) (v := .ref qx_kept) (C := RX5) (T := TX5) (N := 12) hx hb hu k_iX5 hown hK hP 10 rfl rfl 5 (by decide) (hu _ u_288) (fun _ h9 => h9) rfl dX5_back_12 ?_
      refine lv_iload_n hx hb dX5_back_15 rfl (lv_at hl 1 rfl) ?_
      obtain ⟨hin_3, h⟩ := ob_if h
      have hin_3 := inb_in hin_3
      refine va_zald (D := D) hx hb hK hP 1 1 rfl rfl hin_3 dX5_back_16 ?_
      refine lv_if_ne (tgt := 23) hx hb dX5_back_17 (by decide) (fun cc_4 => ?_) (fun cc_4 => ?_)
      · have h := (if_neg cc_4).symm.trans h
        refine lv_aload_n hx hb dX5_back_23 rfl (lv_at hl 0 rfl) ?_
        obtain ⟨⟨o_5, o_6, o_7⟩, hc_8, h⟩ := ob_bind h
        dsimp only at h
        refine k_callVVs (qb := 0) ([(qx_images, .inl (cN, 2, .inr (.inr (.inr (.inr (fun j => some (qi j))))))), (qx_kept, .inl (cZ, 2, .inl x_kept))] ++ k_ic cI qi qil qig qit i_C) (As := []) (rest := []) ⟨hx, hb, hml, hown, hts⟩ hT hZ hA hP hD hS (c_X5_recordState l D cI cZ cN aK aV qx qx_history qx_images qx_kept qn qn_low qn_high qn_length qd qy qt qv qz qh qhl qhg qht x_pi x_undoable x_letterSent x_letterFits n_nodes n_links n_room n_alive n_inMap n_low n_high n_length h_C o_5 o_6 o_7 hc_8) ⟨callB_of 0 hts (k_good u_327) rfl rfl rfl (hu _ u_45) (hu _ u_324) (by decide +kernel) ⟨Nat.le_of_ble_eq_true rfl, Nat.le_of_ble_eq_true rfl⟩, hu _ u_326, hu _ u_0⟩ rfl rfl rfl rfl rfl hl.1 rfl (Nat.le_of_ble_eq_true rfl) dX5_back_24 (fun H locs hP hD hS => ?_)
        have hP : va_P D vwCl ([(qx_images, .inl (cN, 2, .inr (.inr (.inr (.inr (fun j => some (qi j))))))), (qx_kept, .inl (cZ, 2, .inl x_kept))] ++ (k_ic cI qi qil qig qit i_C ++ ([(qx, .inr (5, [.ref qn, .ref qd, .ref qx_history, .int o_6, .ref qx_images, .ref qx_kept, .ref qy, .ref qt, .int x_letterSent, .int x_letterFits, .ref qv, .ref qz])), (qx_history, .inl (cN, 8, .inr (.inr (.inr (.inr (fun j => some (qh (o_5 j)))))))), (qn, .inr (1, [.int n_nodes, .int n_links, .int n_room, .int n_alive, .int n_inMap, .ref qn_low, .ref qn_high, .ref qn_length])), (qn_low, .inl (cI, 18, .inl n_low)), (qn_high, .inl (cI, 18, .inl n_high)), (qn_length, .inl (cI, 18, .inl n_length))] ++ k_hc cI qh qhl qhg qht o_7))) H := hP
        have hD : va_D A ([(qx_images, .inl (cN, 2, .inr (.inr (.inr (.inr (fun j => some (qi j))))))), (qx_kept, .inl (cZ, 2, .inl x_kept))] ++ (k_ic cI qi qil qig qit i_C ++ ([(qx, .inr (5, [.ref qn, .ref qd, .ref qx_history, .int o_6, .ref qx_images, .ref qx_kept, .ref qy, .ref qt, .int x_letterSent, .int x_letterFits, .ref qv, .ref qz])), (qx_history, .inl (cN, 8, .inr (.inr (.inr (.inr (fun j => some (qh (o_5 j)))))))), (qn, .inr (1, [.int n_nodes, .int n_links, .int n_room, .int n_alive, .int n_inMap, .ref qn_low, .ref qn_high, .ref qn_length])), (qn_low, .inl (cI, 18, .inl n_low)), (qn_high, .inl (cI, 18, .inl n_high)), (qn_length, .inl (cI, 18, .inl n_length))] ++ k_hc cI qh qhl qhg qht o_7))) := hD
        refine lv_aload_n hx hb dX5_back_27 rfl (lv_at hl 0 rfl) ?_
        refine lv_iconst (v := (0 : Int32)) hx hb dX5_back_28 (by decide) ?_
        refine va_put (D := D) (ci := 5) (v := .int (0 : Int32)) (ty := .boolean) (C := RX5) (T := TX5) (N := 12) hx hb hu k_iX5 tyX5 tyX5_ok nmX5 hown hK hP hD hS 10 rfl rfl 9 (by decide) (hu _ u_292) (fun _ h9 => h9) rfl (by decide +kernel) rfl rfl (Nat.le_of_ble_eq_true rfl) dX5_back_29 (fun H locs hP hD hS => ?_)
        have hP : va_P D vwCl ([(qx_images, .inl (cN, 2, .inr (.inr (.inr (.inr (fun j => some (qi j))))))), (qx_kept, .inl (cZ, 2, .inl x_kept))] ++ (k_ic cI qi qil qig qit i_C ++ ([(qx, .inr (5, [.ref qn, .ref qd, .ref qx_history, .int o_6, .ref qx_images, .ref qx_kept, .ref qy, .ref qt, .int x_letterSent, .int (0 : Int32), .ref qv, .ref qz])), (qx_history, .inl (cN, 8, .inr (.inr (.inr (.inr (fun j => some (qh (o_5 j)))))))), (qn, .inr (1, [.int n_nodes, .int n_links, .int n_room, .int n_alive, .int n_inMap, .ref qn_low, .ref qn_high, .ref qn_length])), (qn_low, .inl (cI, 18, .inl n_low)), (qn_high, .inl (cI, 18, .inl n_high)), (qn_length, .inl (cI, 18, .inl n_length))] ++ k_hc cI qh qhl qhg qht o_7))) H := hP
        have hD : va_D A ([(qx_images, .inl (cN, 2, .inr (.inr (.inr (.inr (fun j => some (qi j))))))), (qx_kept, .inl (cZ, 2, .inl x_kept))] ++ (k_ic cI qi qil qig qit i_C ++ ([(qx, .inr (5, [.ref qn, .ref qd, .ref qx_history, .int o_6, .ref qx_images, .ref qx_kept, .ref qy, .ref qt, .int x_letterSent, .int (0 : Int32), .ref qv, .ref qz])), (qx_history, .inl (cN, 8, .inr (.inr (.inr (.inr (fun j => some (qh (o_5 j)))))))), (qn, .inr (1, [.int n_nodes, .int n_links, .int n_room, .int n_alive, .int n_inMap, .ref qn_low, .ref qn_high, .ref qn_length])), (qn_low, .inl (cI, 18, .inl n_low)), (qn_high, .inl (cI, 18, .inl n_high)), (qn_length, .inl (cI, 18, .inl n_length))] ++ k_hc cI qh qhl qhg qht o_7))) := hD
        refine lv_aload_n hx hb dX5_back_32 rfl (lv_at hl 0 rfl) ?_
        refine va_get (D := D) (ci := 5) (v := .ref qn) (C := RX5) (T := TX5) (N := 12) hx hb hu k_iX5 hown hK hP 10 rfl rfl 0 (by decide) (hu _ u_283) (fun _ h9 => h9) rfl dX5_back_33 ?_
        refine lv_aload_n hx hb dX5_back_36 rfl (lv_at hl 0 rfl) ?_
        refine va_get (D := D) (ci := 5) (v := .ref qx_images) (C := RX5) (T := TX5) (N := 12) hx hb hu k_iX5 hown hK hP 10 rfl rfl 4 (by decide) (hu _ u_287) (fun _ h9 => h9) rfl dX5_back_37 ?_
        refine lv_iload_n hx hb dX5_back_40 rfl (lv_at hl 1 rfl) ?_
        refine va_aldq (D := D) hx hb hK hP 0 2 rfl rfl hin_3 dX5_back_41 ?_
        by_cases sp_27 : (Int32.toNatClampNeg p1) = 0
        · have h := (if_pos sp_27).symm.trans h
          refine W.eq (g2 := F0 m 42 ls [.ref (qi 0), .ref qn]) (by show F0 m _ ls (.ref (qi (Int32.toNatClampNeg p1)) :: _) = _; rw [sp_27]) ?_
          obtain ⟨⟨o_9, o_10, o_11, o_12, o_13, o_14, o_15, o_16⟩, hc_17, h⟩ := ob_bind h
          dsimp only at h
          refine k_callVV (qb := 0) [12, 13, 14, 15, 2, 3, 4, 5] [0, 1, 2, 3] [12, 13, 14, 15] [(qn, .inr (1, [.int o_9, .int o_10, .int o_11, .int o_12, .int o_13, .ref qn_low, .ref qn_high, .ref qn_length])), (qn_low, .inl (cI, 18, .inl o_14)), (qn_high, .inl (cI, 18, .inl o_15)), (qn_length, .inl (cI, 18, .inl o_16))] (As := [.ref (qi 0)]) (rest := []) ⟨hx, hb, hml, hown, hts⟩ hT hZ hA hP hD hS (c_X1_copyFrom l D cI cZ cN aK aV qn qn_low qn_high qn_length (qi 0) (qil 0) (qig 0) (qit 0) n_nodes n_links n_room n_alive n_inMap n_low n_high n_length (i_C 0).1 (i_C 0).2.1 (i_C 0).2.2.1 (i_C 0).2.2.2.1 (i_C 0).2.2.2.2.1 (i_C 0).2.2.2.2.2.1 (i_C 0).2.2.2.2.2.2.1 (i_C 0).2.2.2.2.2.2.2 o_9 o_10 o_11 o_12 o_13 o_14 o_15 o_16 hc_17) ⟨callB_of 1 hts (k_good u_335) rfl rfl rfl (hu _ u_46) (hu _ u_332) (by decide +kernel) ⟨Nat.le_of_ble_eq_true rfl, Nat.le_of_ble_eq_true rfl⟩, hu _ u_333, hu _ u_334⟩ rfl rfl rfl (by decide) (by decide) (by decide) rfl rfl rfl rfl hl.1 rfl (Nat.le_of_ble_eq_true rfl) dX5_back_42 (fun H locs hP hD hS => ?_)
          have hP : va_P D vwCl ([(qx_images, .inl (cN, 2, .inr (.inr (.inr (.inr (fun j => some (qi j))))))), (qx_kept, .inl (cZ, 2, .inl x_kept))] ++ (k_ic cI qi qil qig qit i_C ++ ([(qx, .inr (5, [.ref qn, .ref qd, .ref qx_history, .int o_6, .ref qx_images, .ref qx_kept, .ref qy, .ref qt, .int x_letterSent, .int (0 : Int32), .ref qv, .ref qz])), (qx_history, .inl (cN, 8, .inr (.inr (.inr (.inr (fun j => some (qh (o_5 j)))))))), (qn, .inr (1, [.int o_9, .int o_10, .int o_11, .int o_12, .int o_13, .ref qn_low, .ref qn_high, .ref qn_length])), (qn_low, .inl (cI, 18, .inl o_14)), (qn_high, .inl (cI, 18, .inl o_15)), (qn_length, .inl (cI, 18, .inl o_16))] ++ k_hc cI qh qhl qhg qht o_7))) H := hP
          have hD : va_D A ([(qx_images, .inl (cN, 2, .inr (.inr (.inr (.inr (fun j => some (qi j))))))), (qx_kept, .inl (cZ, 2, .inl x_kept))] ++ (k_ic cI qi qil qig qit i_C ++ ([(qx, .inr (5, [.ref qn, .ref qd, .ref qx_history, .int o_6, .ref qx_images, .ref qx_kept, .ref qy, .ref qt, .int x_letterSent, .int (0 : Int32), .ref qv, .ref qz])), (qx_history, .inl (cN, 8, .inr (.inr (.inr (.inr (fun j => some (qh (o_5 j)))))))), (qn, .inr (1, [.int o_9, .int o_10, .int o_11, .int o_12, .int o_13, .ref qn_low, .ref qn_high, .ref qn_length])), (qn_low, .inl (cI, 18, .inl o_14)), (qn_high, .inl (cI, 18, .inl o_15)), (qn_length, .inl (cI, 18, .inl o_16))] ++ k_hc cI qh qhl qhg qht o_7))) := hD
          refine lv_aload_n hx hb dX5_back_45 rfl (lv_at hl 0 rfl) ?_
          refine va_get (D := D) (ci := 5) (v := .ref qn) (C := RX5) (T := TX5) (N := 12) hx hb hu k_iX5 hown hK hP 10 rfl rfl 0 (by decide) (hu _ u_283) (fun _ h9 => h9) rfl dX5_back_46 ?_
          refine va_get (D := D) (ci := 1) (v := .int o_10) (C := RX1) (T := TX1) (N := 8) hx hb hu k_iX1 hown hK hP 12 rfl rfl 1 (by decide) (hu _ u_78) (fun _ h9 => h9) rfl dX5_back_49 ?_
          have hq := Option.some.inj h
          clear h
          obtain ⟨e0, hq0⟩ := Prod.mk.inj hq
          clear hq
          obtain ⟨e1, hq1⟩ := Prod.mk.inj hq0
          clear hq0
          obtain ⟨e2, hq2⟩ := Prod.mk.inj hq1
          clear hq1
          obtain ⟨e3, hq3⟩ := Prod.mk.inj hq2
          clear hq2
          obtain ⟨e4, hq4⟩ := Prod.mk.inj hq3
          clear hq3
          obtain ⟨e5, hq5⟩ := Prod.mk.inj hq4
          clear hq4
          obtain ⟨e6, hq6⟩ := Prod.mk.inj hq5
          clear hq5
          obtain ⟨e7, hq7⟩ := Prod.mk.inj hq6
          clear hq6
          obtain ⟨e8, hq8⟩ := Prod.mk.inj hq7
          clear hq7
          obtain ⟨e9, hq9⟩ := Prod.mk.inj hq8
          clear hq8
          obtain ⟨e10, hq10⟩ := Prod.mk.inj hq9
          clear hq9
          obtain ⟨e11, hq11⟩ := Prod.mk.inj hq10
          clear hq10
          subst e0
          subst e1
          subst e2
          subst e3
          subst e4
          subst e5
          subst e6
          subst e7
          subst e8
          subst e9
          subst e10
          subst e11
          subst hq11
          exact k_retI hx hb hr hlocks hP hD hS dX5_back_52
        have h := (if_neg sp_27).symm.trans h
        by_cases sp_28 : (Int32.toNatClampNeg p1) = 1
        · have h := (if_pos sp_28).symm.trans h
          refine W.eq (g2 := F0 m 42 ls [.ref (qi 1), .ref qn]) (by show F0 m _ ls (.ref (qi (Int32.toNatClampNeg p1)) :: _) = _; rw [sp_28]) ?_
          obtain ⟨⟨o_18, o_19, o_20, o_21, o_22, o_23, o_24, o_25⟩, hc_26, h⟩ := ob_bind h
          dsimp only at h
          refine k_callVV (qb := 0) [12, 13, 14, 15, 6, 7, 8, 9] [0, 1, 2, 3] [12, 13, 14, 15] [(qn, .inr (1, [.int o_18, .int o_19, .int o_20, .int o_21, .int o_22, .ref qn_low, .ref qn_high, .ref qn_length])), (qn_low, .inl (cI, 18, .inl o_23)), (qn_high, .inl (cI, 18, .inl o_24)), (qn_length, .inl (cI, 18, .inl o_25))] (As := [.ref (qi 1)]) (rest := []) ⟨hx, hb, hml, hown, hts⟩ hT hZ hA hP hD hS (c_X1_copyFrom l D cI cZ cN aK aV qn qn_low qn_high qn_length (qi 1) (qil 1) (qig 1) (qit 1) n_nodes n_links n_room n_alive n_inMap n_low n_high n_length (i_C 1).1 (i_C 1).2.1 (i_C 1).2.2.1 (i_C 1).2.2.2.1 (i_C 1).2.2.2.2.1 (i_C 1).2.2.2.2.2.1 (i_C 1).2.2.2.2.2.2.1 (i_C 1).2.2.2.2.2.2.2 o_18 o_19 o_20 o_21 o_22 o_23 o_24 o_25 hc_26) ⟨callB_of 1 hts (k_good u_335) rfl rfl rfl (hu _ u_46) (hu _ u_332) (by decide +kernel) ⟨Nat.le_of_ble_eq_true rfl, Nat.le_of_ble_eq_true rfl⟩, hu _ u_333, hu _ u_334⟩ rfl rfl rfl (by decide) (by decide) (by decide) rfl rfl rfl rfl hl.1 rfl (Nat.le_of_ble_eq_true rfl) dX5_back_42 (fun H locs hP hD hS => ?_)
          have hP : va_P D vwCl ([(qx_images, .inl (cN, 2, .inr (.inr (.inr (.inr (fun j => some (qi j))))))), (qx_kept, .inl (cZ, 2, .inl x_kept))] ++ (k_ic cI qi qil qig qit i_C ++ ([(qx, .inr (5, [.ref qn, .ref qd, .ref qx_history, .int o_6, .ref qx_images, .ref qx_kept, .ref qy, .ref qt, .int x_letterSent, .int (0 : Int32), .ref qv, .ref qz])), (qx_history, .inl (cN, 8, .inr (.inr (.inr (.inr (fun j => some (qh (o_5 j)))))))), (qn, .inr (1, [.int o_18, .int o_19, .int o_20, .int o_21, .int o_22, .ref qn_low, .ref qn_high, .ref qn_length])), (qn_low, .inl (cI, 18, .inl o_23)), (qn_high, .inl (cI, 18, .inl o_24)), (qn_length, .inl (cI, 18, .inl o_25))] ++ k_hc cI qh qhl qhg qht o_7))) H := hP
          have hD : va_D A ([(qx_images, .inl (cN, 2, .inr (.inr (.inr (.inr (fun j => some (qi j))))))), (qx_kept, .inl (cZ, 2, .inl x_kept))] ++ (k_ic cI qi qil qig qit i_C ++ ([(qx, .inr (5, [.ref qn, .ref qd, .ref qx_history, .int o_6, .ref qx_images, .ref qx_kept, .ref qy, .ref qt, .int x_letterSent, .int (0 : Int32), .ref qv, .ref qz])), (qx_history, .inl (cN, 8, .inr (.inr (.inr (.inr (fun j => some (qh (o_5 j)))))))), (qn, .inr (1, [.int o_18, .int o_19, .int o_20, .int o_21, .int o_22, .ref qn_low, .ref qn_high, .ref qn_length])), (qn_low, .inl (cI, 18, .inl o_23)), (qn_high, .inl (cI, 18, .inl o_24)), (qn_length, .inl (cI, 18, .inl o_25))] ++ k_hc cI qh qhl qhg qht o_7))) := hD
          refine lv_aload_n hx hb dX5_back_45 rfl (lv_at hl 0 rfl) ?_
          refine va_get (D := D) (ci := 5) (v := .ref qn) (C := RX5) (T := TX5) (N := 12) hx hb hu k_iX5 hown hK hP 10 rfl rfl 0 (by decide) (hu _ u_283) (fun _ h9 => h9) rfl dX5_back_46 ?_
          refine va_get (D := D) (ci := 1) (v := .int o_19) (C := RX1) (T := TX1) (N := 8) hx hb hu k_iX1 hown hK hP 12 rfl rfl 1 (by decide) (hu _ u_78) (fun _ h9 => h9) rfl dX5_back_49 ?_
          have hq := Option.some.inj h
          clear h
          obtain ⟨e0, hq0⟩ := Prod.mk.inj hq
          clear hq
          obtain ⟨e1, hq1⟩ := Prod.mk.inj hq0
          clear hq0
          obtain ⟨e2, hq2⟩ := Prod.mk.inj hq1
          clear hq1
          obtain ⟨e3, hq3⟩ := Prod.mk.inj hq2
          clear hq2
          obtain ⟨e4, hq4⟩ := Prod.mk.inj hq3
          clear hq3
          obtain ⟨e5, hq5⟩ := Prod.mk.inj hq4
          clear hq4
          obtain ⟨e6, hq6⟩ := Prod.mk.inj hq5
          clear hq5
          obtain ⟨e7, hq7⟩ := Prod.mk.inj hq6
          clear hq6
          obtain ⟨e8, hq8⟩ := Prod.mk.inj hq7
          clear hq7
          obtain ⟨e9, hq9⟩ := Prod.mk.inj hq8
          clear hq8
          obtain ⟨e10, hq10⟩ := Prod.mk.inj hq9
          clear hq9
          obtain ⟨e11, hq11⟩ := Prod.mk.inj hq10
          clear hq10
          subst e0
          subst e1
          subst e2
          subst e3
          subst e4
          subst e5
          subst e6
          subst e7
          subst e8
          subst e9
          subst e10
          subst e11
          subst hq11
          exact k_retI hx hb hr hlocks hP hD hS dX5_back_52
        have h := (if_neg sp_28).symm.trans h
        cases h
      · have h := (if_pos cc_4).symm.trans h
        refine lv_bipush (v := (-2 : Int32)) hx hb dX5_back_20 (by decide) ?_
        have hq := Option.some.inj h
        clear h
        obtain ⟨e0, hq0⟩ := Prod.mk.inj hq
        clear hq
        obtain ⟨e1, hq1⟩ := Prod.mk.inj hq0
        clear hq0
        obtain ⟨e2, hq2⟩ := Prod.mk.inj hq1
        clear hq1
        obtain ⟨e3, hq3⟩ := Prod.mk.inj hq2
        clear hq2
        obtain ⟨e4, hq4⟩ := Prod.mk.inj hq3
        clear hq3
        obtain ⟨e5, hq5⟩ := Prod.mk.inj hq4
        clear hq4
        obtain ⟨e6, hq6⟩ := Prod.mk.inj hq5
        clear hq5
        obtain ⟨e7, hq7⟩ := Prod.mk.inj hq6
        clear hq6
        obtain ⟨e8, hq8⟩ := Prod.mk.inj hq7
        clear hq7
        obtain ⟨e9, hq9⟩ := Prod.mk.inj hq8
        clear hq8
        obtain ⟨e10, hq10⟩ := Prod.mk.inj hq9
        clear hq9
        obtain ⟨e11, hq11⟩ := Prod.mk.inj hq10
        clear hq10
        subst e0
        subst e1
        subst e2
        subst e3
        subst e4
        subst e5
        subst e6
        subst e7
        subst e8
        subst e9
        subst e10
        subst e11
        subst hq11
        exact k_retI hx hb hr hlocks hP hD hS dX5_back_22
    · have h := (if_neg cc_2).symm.trans h
      refine lv_iconst (v := (-1 : Int32)) hx hb dX5_back_9 (by decide) ?_
      have hq := Option.some.inj h
      clear h
      obtain ⟨e0, hq0⟩ := Prod.mk.inj hq
      clear hq
      obtain ⟨e1, hq1⟩ := Prod.mk.inj hq0
      clear hq0
      obtain ⟨e2, hq2⟩ := Prod.mk.inj hq1
      clear hq1
      obtain ⟨e3, hq3⟩ := Prod.mk.inj hq2
      clear hq2
      obtain ⟨e4, hq4⟩ := Prod.mk.inj hq3
      clear hq3
      obtain ⟨e5, hq5⟩ := Prod.mk.inj hq4
      clear hq4
      obtain ⟨e6, hq6⟩ := Prod.mk.inj hq5
      clear hq5
      obtain ⟨e7, hq7⟩ := Prod.mk.inj hq6
      clear hq6
      obtain ⟨e8, hq8⟩ := Prod.mk.inj hq7
      clear hq7
      obtain ⟨e9, hq9⟩ := Prod.mk.inj hq8
      clear hq8
      obtain ⟨e10, hq10⟩ := Prod.mk.inj hq9
      clear hq9
      obtain ⟨e11, hq11⟩ := Prod.mk.inj hq10
      clear hq10
      subst e0
      subst e1
      subst e2
      subst e3
      subst e4
      subst e5
      subst e6
      subst e7
      subst e8
      subst e9
      subst e10
      subst e11
      subst hq11
      exact k_retI hx hb hr hlocks hP hD hS dX5_back_10
