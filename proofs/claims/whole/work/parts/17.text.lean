def f_X3_append (p1 : Int32) (x_codes : (Nat → Int32)) (x_size : Int32) : Option ((Nat → Int32) × Int32) :=
  if (80 : Int32) ≤ x_size then
    some (x_codes, x_size)
  else
    if inb x_size 80 = true then
    some ((upd x_codes (Int32.toNatClampNeg x_size) p1), (x_size + (1 : Int32)))
    else none
set_option maxHeartbeats 4000000 in
set_option maxRecDepth 100000 in
theorem c_X3_append (l : Launch) (D : va_G) (cI cZ cN : ClassId) (aK aV : Nat → Nat)  (qx : Nat) (qx_codes : Nat) (x_codes : (Nat → Int32)) (x_size : Int32) (x_faultAt : Int32) (x_wordStart : Int32) (x_wordEnd : Int32) (x_kind : Int32) (x_first : Int32) (x_second : Int32) (x_digit : Int32) (p1 : Int32) (z_x_codes : (Nat → Int32)) (z_x_size : Int32) (h : f_X3_append p1 x_codes x_size = some (z_x_codes, z_x_size)) : CtV l D cI cZ cN aK aV yX3_append (k_W yX3_append cX3_append 2 none) { frames := 0, cells := 0, slots := 0, locals := 0 } [.ref qx, .int p1] [(qx, .inr (3, [.ref qx_codes, .int x_size, .int x_faultAt, .int x_wordStart, .int x_wordEnd, .int x_kind, .int x_first, .int x_second, .int x_digit])), (qx_codes, .inl (cI, 80, .inl x_codes))] [(qx, .inr (3, [.ref qx_codes, .int z_x_size, .int x_faultAt, .int x_wordStart, .int x_wordEnd, .int x_kind, .int x_first, .int x_second, .int x_digit])), (qx_codes, .inl (cI, 80, .inl z_x_codes))] := by
  refine k_startV (by decide) (Nat.le_of_ble_eq_true rfl) ?_
  intro p e s m below meth c A ls hx hb hr hml hown hts hlocks hT hZ hA hP hD hS hl
  have hK := hT.1
  have hu : ∀ w ∈ k_U, w.before ([.ref qx, .int p1] : List Value).toArray s = true := fun w h => hts w (List.mem_cons_of_mem _ h)
  have hown : s.vm.findClass RX3 = some m.cls := hown
  have hl : lv_has ls 2 [(0, .ref qx), (1, .int p1)] := hl
  unfold f_X3_append at h
  refine lv_aload_n hx hb dX3_append_0 rfl (lv_at hl 0 rfl) ?_
  refine va_get (D := D) (ci := 3) (v := .int x_size) (C := RX3) (T := TX3) (N := 9) hx hb hu k_iX3 hown hK hP 0 rfl rfl 1 (by decide) (hu _ u_254) (fun _ h9 => h9) rfl dX3_append_1 ?_
  refine lv_bipush (v := (80 : Int32)) hx hb dX3_append_4 (by decide) ?_
  refine lv_icmp_ge (tgt := 29) hx hb dX3_append_6 (by decide) (fun cc_1 => ?_) (fun cc_1 => ?_)
  · have h := (if_pos cc_1).symm.trans h
    have hq := Option.some.inj h
    clear h
    obtain ⟨e0, hq0⟩ := Prod.mk.inj hq
    clear hq
    subst e0
    subst hq0
    exact k_retV hx hb hr hlocks hP hD hS dX3_append_29
  · have h := (if_neg cc_1).symm.trans h
    refine lv_aload_n hx hb dX3_append_9 rfl (lv_at hl 0 rfl) ?_
    refine va_get (D := D) (ci := 3) (v := .ref qx_codes) (C := RX3) (T := TX3) (N := 9) hx hb hu k_iX3 hown hK hP 0 rfl rfl 0 (by decide) (hu _ u_253) (fun _ h9 => h9) rfl dX3_append_10 ?_
    refine lv_aload_n hx hb dX3_append_13 rfl (lv_at hl 0 rfl) ?_
    refine va_get (D := D) (ci := 3) (v := .int x_size) (C := RX3) (T := TX3) (N := 9) hx hb hu k_iX3 hown hK hP 0 rfl rfl 1 (by decide) (hu _ u_254) (fun _ h9 => h9) rfl dX3_append_14 ?_
    refine lv_iload_n hx hb dX3_append_17 rfl (lv_at hl 1 rfl) ?_
    obtain ⟨hin_2, h⟩ := ob_if h
    have hin_2 := inb_in hin_2
    refine va_iast (D := D) hx hb hK hP hD hS 1 0 rfl rfl hin_2 dX3_append_18 (fun H locs hP hD hS => ?_)
    have hP : va_P D vwCl [(qx, .inr (3, [.ref qx_codes, .int x_size, .int x_faultAt, .int x_wordStart, .int x_wordEnd, .int x_kind, .int x_first, .int x_second, .int x_digit])), (qx_codes, .inl (cI, 80, .inl (upd x_codes (Int32.toNatClampNeg x_size) p1)))] H := hP
    have hD : va_D A [(qx, .inr (3, [.ref qx_codes, .int x_size, .int x_faultAt, .int x_wordStart, .int x_wordEnd, .int x_kind, .int x_first, .int x_second, .int x_digit])), (qx_codes, .inl (cI, 80, .inl (upd x_codes (Int32.toNatClampNeg x_size) p1)))] := hD
    refine lv_aload_n hx hb dX3_append_19 rfl (lv_at hl 0 rfl) ?_
    refine lv_dup hx hb dX3_append_20 rfl ?_
    refine va_get (D := D) (ci := 3) (v := .int x_size) (C := RX3) (T := TX3) (N := 9) hx hb hu k_iX3 hown hK hP 0 rfl rfl 1 (by decide) (hu _ u_254) (fun _ h9 => h9) rfl dX3_append_21 ?_
    refine lv_iconst (v := (1 : Int32)) hx hb dX3_append_24 (by decide) ?_
    refine lv_iadd hx hb dX3_append_25 ?_
    refine va_put (D := D) (ci := 3) (v := .int (x_size + (1 : Int32))) (ty := .int) (C := RX3) (T := TX3) (N := 9) hx hb hu k_iX3 tyX3 tyX3_ok nmX3 hown hK hP hD hS 0 rfl rfl 1 (by decide) (hu _ u_254) (fun _ h9 => h9) rfl (by decide +kernel) rfl rfl (Nat.le_of_ble_eq_true rfl) dX3_append_26 (fun H locs hP hD hS => ?_)
    have hP : va_P D vwCl [(qx, .inr (3, [.ref qx_codes, .int (x_size + (1 : Int32)), .int x_faultAt, .int x_wordStart, .int x_wordEnd, .int x_kind, .int x_first, .int x_second, .int x_digit])), (qx_codes, .inl (cI, 80, .inl (upd x_codes (Int32.toNatClampNeg x_size) p1)))] H := hP
    have hD : va_D A [(qx, .inr (3, [.ref qx_codes, .int (x_size + (1 : Int32)), .int x_faultAt, .int x_wordStart, .int x_wordEnd, .int x_kind, .int x_first, .int x_second, .int x_digit])), (qx_codes, .inl (cI, 80, .inl (upd x_codes (Int32.toNatClampNeg x_size) p1)))] := hD
    have hq := Option.some.inj h
    clear h
    obtain ⟨e0, hq0⟩ := Prod.mk.inj hq
    clear hq
    subst e0
    subst hq0
    exact k_retV hx hb hr hlocks hP hD hS dX3_append_29
def f_X3_startReading (x_faultAt : Int32) (x_wordStart : Int32) (x_wordEnd : Int32) : Int32 × Int32 × Int32 :=
  ((-9 : Int32), (0 : Int32), (0 : Int32))
set_option maxHeartbeats 4000000 in
set_option maxRecDepth 100000 in
theorem c_X3_startReading (l : Launch) (D : va_G) (cI cZ cN : ClassId) (aK aV : Nat → Nat)  (qx : Nat) (qx_codes : Nat) (x_size : Int32) (x_faultAt : Int32) (x_wordStart : Int32) (x_wordEnd : Int32) (x_kind : Int32) (x_first : Int32) (x_second : Int32) (x_digit : Int32) (z_x_faultAt : Int32) (z_x_wordStart : Int32) (z_x_wordEnd : Int32) (h : f_X3_startReading x_faultAt x_wordStart x_wordEnd = (z_x_faultAt, z_x_wordStart, z_x_wordEnd)) : CtV l D cI cZ cN aK aV yX3_startReading (k_W yX3_startReading cX3_startReading 1 none) { frames := 0, cells := 0, slots := 0, locals := 0 } [.ref qx] [(qx, .inr (3, [.ref qx_codes, .int x_size, .int x_faultAt, .int x_wordStart, .int x_wordEnd, .int x_kind, .int x_first, .int x_second, .int x_digit]))] [(qx, .inr (3, [.ref qx_codes, .int x_size, .int z_x_faultAt, .int z_x_wordStart, .int z_x_wordEnd, .int x_kind, .int x_first, .int x_second, .int x_digit]))] := by
  refine k_startV (by decide) (Nat.le_of_ble_eq_true rfl) ?_
  intro p e s m below meth c A ls hx hb hr hml hown hts hlocks hT hZ hA hP hD hS hl
  have hK := hT.1
  have hu : ∀ w ∈ k_U, w.before ([.ref qx] : List Value).toArray s = true := fun w h => hts w (List.mem_cons_of_mem _ h)
  have hown : s.vm.findClass RX3 = some m.cls := hown
  have hl : lv_has ls 1 [(0, .ref qx)] := hl
  unfold f_X3_startReading at h
  refine lv_aload_n hx hb dX3_startReading_0 rfl (lv_at hl 0 rfl) ?_
  refine lv_bipush (v := (-9 : Int32)) hx hb dX3_startReading_1 (by decide) ?_
  refine va_put (D := D) (ci := 3) (v := .int (-9 : Int32)) (ty := .int) (C := RX3) (T := TX3) (N := 9) hx hb hu k_iX3 tyX3 tyX3_ok nmX3 hown hK hP hD hS 0 rfl rfl 2 (by decide) (hu _ u_256) (fun _ h9 => h9) rfl (by decide +kernel) rfl rfl (Nat.le_of_ble_eq_true rfl) dX3_startReading_3 (fun H locs hP hD hS => ?_)
  have hP : va_P D vwCl [(qx, .inr (3, [.ref qx_codes, .int x_size, .int (-9 : Int32), .int x_wordStart, .int x_wordEnd, .int x_kind, .int x_first, .int x_second, .int x_digit]))] H := hP
  have hD : va_D A [(qx, .inr (3, [.ref qx_codes, .int x_size, .int (-9 : Int32), .int x_wordStart, .int x_wordEnd, .int x_kind, .int x_first, .int x_second, .int x_digit]))] := hD
  refine lv_aload_n hx hb dX3_startReading_6 rfl (lv_at hl 0 rfl) ?_
  refine lv_iconst (v := (0 : Int32)) hx hb dX3_startReading_7 (by decide) ?_
  refine va_put (D := D) (ci := 3) (v := .int (0 : Int32)) (ty := .int) (C := RX3) (T := TX3) (N := 9) hx hb hu k_iX3 tyX3 tyX3_ok nmX3 hown hK hP hD hS 0 rfl rfl 3 (by decide) (hu _ u_258) (fun _ h9 => h9) rfl (by decide +kernel) rfl rfl (Nat.le_of_ble_eq_true rfl) dX3_startReading_8 (fun H locs hP hD hS => ?_)
  have hP : va_P D vwCl [(qx, .inr (3, [.ref qx_codes, .int x_size, .int (-9 : Int32), .int (0 : Int32), .int x_wordEnd, .int x_kind, .int x_first, .int x_second, .int x_digit]))] H := hP
  have hD : va_D A [(qx, .inr (3, [.ref qx_codes, .int x_size, .int (-9 : Int32), .int (0 : Int32), .int x_wordEnd, .int x_kind, .int x_first, .int x_second, .int x_digit]))] := hD
  refine lv_aload_n hx hb dX3_startReading_11 rfl (lv_at hl 0 rfl) ?_
  refine lv_iconst (v := (0 : Int32)) hx hb dX3_startReading_12 (by decide) ?_
  refine va_put (D := D) (ci := 3) (v := .int (0 : Int32)) (ty := .int) (C := RX3) (T := TX3) (N := 9) hx hb hu k_iX3 tyX3 tyX3_ok nmX3 hown hK hP hD hS 0 rfl rfl 4 (by decide) (hu _ u_259) (fun _ h9 => h9) rfl (by decide +kernel) rfl rfl (Nat.le_of_ble_eq_true rfl) dX3_startReading_13 (fun H locs hP hD hS => ?_)
  have hP : va_P D vwCl [(qx, .inr (3, [.ref qx_codes, .int x_size, .int (-9 : Int32), .int (0 : Int32), .int (0 : Int32), .int x_kind, .int x_first, .int x_second, .int x_digit]))] H := hP
  have hD : va_D A [(qx, .inr (3, [.ref qx_codes, .int x_size, .int (-9 : Int32), .int (0 : Int32), .int (0 : Int32), .int x_kind, .int x_first, .int x_second, .int x_digit]))] := hD
  have hq := h
  clear h
  obtain ⟨e0, hq0⟩ := Prod.mk.inj hq
  clear hq
  obtain ⟨e1, hq1⟩ := Prod.mk.inj hq0
  clear hq0
  subst e0
  subst e1
  subst hq1
  exact k_retV hx hb hr hlocks hP hD hS dX3_startReading_16
def f_X3_takeWord_b54  : Nat → (Nat → Int32) → Int32 → Int32 → Int32 → Option (Int32 × Int32)
  | 0, _, _, _, _ => none
  | n + 1, x_codes, x_size, x_wordStart, x_wordEnd =>
    if x_size ≤ x_wordEnd then
      some (x_wordStart, x_wordEnd)
    else
      if inb x_wordEnd 80 = true then
      if (x_codes (Int32.toNatClampNeg x_wordEnd)) = (32 : Int32) then
        some (x_wordStart, x_wordEnd)
      else
        (f_X3_takeWord_b54 n) x_codes x_size x_wordStart (x_wordEnd + (1 : Int32))
      else none
def f_X3_takeWord_b8  : Nat → (Nat → Int32) → Int32 → Int32 → Int32 → Option (Int32 × Int32)
  | 0, _, _, _, _ => none
  | n + 1, x_codes, x_size, x_wordStart, x_wordEnd =>
    if x_size ≤ x_wordStart then
      f_X3_takeWord_b54 1000 x_codes x_size x_wordStart x_wordStart
    else
      if inb x_wordStart 80 = true then
      if (x_codes (Int32.toNatClampNeg x_wordStart)) = (32 : Int32) then
        (f_X3_takeWord_b8 n) x_codes x_size (x_wordStart + (1 : Int32)) x_wordEnd
      else
        f_X3_takeWord_b54 1000 x_codes x_size x_wordStart x_wordStart
      else none
def f_X3_takeWord (x_codes : (Nat → Int32)) (x_size : Int32) (x_wordStart : Int32) (x_wordEnd : Int32) : Option (Int32 × Int32) :=
  f_X3_takeWord_b8 1000 x_codes x_size x_wordEnd x_wordEnd
set_option maxHeartbeats 4000000 in
set_option maxRecDepth 100000 in
theorem c_X3_takeWord (l : Launch) (D : va_G) (cI cZ cN : ClassId) (aK aV : Nat → Nat)  (qx : Nat) (qx_codes : Nat) (x_codes : (Nat → Int32)) (x_size : Int32) (x_faultAt : Int32) (x_wordStart : Int32) (x_wordEnd : Int32) (x_kind : Int32) (x_first : Int32) (x_second : Int32) (x_digit : Int32) (z_x_wordStart : Int32) (z_x_wordEnd : Int32) (h : f_X3_takeWord x_codes x_size x_wordStart x_wordEnd = some (z_x_wordStart, z_x_wordEnd)) : CtV l D cI cZ cN aK aV yX3_takeWord (k_W yX3_takeWord cX3_takeWord 1 none) { frames := 0, cells := 0, slots := 0, locals := 0 } [.ref qx] [(qx, .inr (3, [.ref qx_codes, .int x_size, .int x_faultAt, .int x_wordStart, .int x_wordEnd, .int x_kind, .int x_first, .int x_second, .int x_digit])), (qx_codes, .inl (cI, 80, .inl x_codes))] [(qx, .inr (3, [.ref qx_codes, .int x_size, .int x_faultAt, .int z_x_wordStart, .int z_x_wordEnd, .int x_kind, .int x_first, .int x_second, .int x_digit])), (qx_codes, .inl (cI, 80, .inl x_codes))] := by
  refine k_startV (by decide) (Nat.le_of_ble_eq_true rfl) ?_
  intro p e s m below meth c A ls hx hb hr hml hown hts hlocks hT hZ hA hP hD hS hl
  have hK := hT.1
  have hu : ∀ w ∈ k_U, w.before ([.ref qx] : List Value).toArray s = true := fun w h => hts w (List.mem_cons_of_mem _ h)
  have hown : s.vm.findClass RX3 = some m.cls := hown
  have hl : lv_has ls 1 [(0, .ref qx)] := hl
  unfold f_X3_takeWord at h
  have w8 : ∀ (n8 : Nat) (x_codes : (Nat → Int32)) (x_size : Int32) (x_wordStart : Int32) (x_wordEnd : Int32) (H : Heap) (locs : List Loc) (ls : Array Slot), va_P D vwCl [(qx, .inr (3, [.ref qx_codes, .int x_size, .int x_faultAt, .int x_wordStart, .int x_wordEnd, .int x_kind, .int x_first, .int x_second, .int x_digit])), (qx_codes, .inl (cI, 80, .inl x_codes))] H → va_D A [(qx, .inr (3, [.ref qx_codes, .int x_size, .int x_faultAt, .int x_wordStart, .int x_wordEnd, .int x_kind, .int x_first, .int x_second, .int x_digit])), (qx_codes, .inl (cI, 80, .inl x_codes))] → va_S A s.heap H locs → lv_has ls 1 [(0, .ref qx)] → f_X3_takeWord_b8 n8 x_codes x_size x_wordStart x_wordEnd = some (z_x_wordStart, z_x_wordEnd) → W p l e { frames := 0, cells := 0, slots := 0, locals := 0 } s m ([.ref qx] : List Value).toArray below meth c H locs 0 0 (MQ below (k_QV D [(qx, .inr (3, [.ref qx_codes, .int x_size, .int x_faultAt, .int z_x_wordStart, .int z_x_wordEnd, .int x_kind, .int x_first, .int x_second, .int x_digit])), (qx_codes, .inl (cI, 80, .inl x_codes))] A) ([.ref qx] : List Value).toArray s 0 0 A) (F0 m 8 ls []) := by
    intro n8
    induction n8 with
    | zero =>
      intro x_codes x_size x_wordStart x_wordEnd H locs ls hP hD hS hl h
      rw [f_X3_takeWord_b8] at h
      cases h
    | succ n8 ih8 =>
      intro x_codes x_size x_wordStart x_wordEnd H locs ls hP hD hS hl h
      rw [f_X3_takeWord_b8] at h
      have w54 : ∀ (n54 : Nat) (x_codes : (Nat → Int32)) (x_size : Int32) (x_wordStart : Int32) (x_wordEnd : Int32) (H : Heap) (locs : List Loc) (ls : Array Slot), va_P D vwCl [(qx, .inr (3, [.ref qx_codes, .int x_size, .int x_faultAt, .int x_wordStart, .int x_wordEnd, .int x_kind, .int x_first, .int x_second, .int x_digit])), (qx_codes, .inl (cI, 80, .inl x_codes))] H → va_D A [(qx, .inr (3, [.ref qx_codes, .int x_size, .int x_faultAt, .int x_wordStart, .int x_wordEnd, .int x_kind, .int x_first, .int x_second, .int x_digit])), (qx_codes, .inl (cI, 80, .inl x_codes))] → va_S A s.heap H locs → lv_has ls 1 [(0, .ref qx)] → f_X3_takeWord_b54 n54 x_codes x_size x_wordStart x_wordEnd = some (z_x_wordStart, z_x_wordEnd) → W p l e { frames := 0, cells := 0, slots := 0, locals := 0 } s m ([.ref qx] : List Value).toArray below meth c H locs 0 0 (MQ below (k_QV D [(qx, .inr (3, [.ref qx_codes, .int x_size, .int x_faultAt, .int z_x_wordStart, .int z_x_wordEnd, .int x_kind, .int x_first, .int x_second, .int x_digit])), (qx_codes, .inl (cI, 80, .inl x_codes))] A) ([.ref qx] : List Value).toArray s 0 0 A) (F0 m 54 ls []) := by
        intro n54
        induction n54 with
        | zero =>
          intro x_codes x_size x_wordStart x_wordEnd H locs ls hP hD hS hl h
          rw [f_X3_takeWord_b54] at h
          cases h
        | succ n54 ih54 =>
          intro x_codes x_size x_wordStart x_wordEnd H locs ls hP hD hS hl h
          rw [f_X3_takeWord_b54] at h
          refine lv_aload_n hx hb dX3_takeWord_54 rfl (lv_at hl 0 rfl) ?_
          refine va_get (D := D) (ci := 3) (v := .int x_wordEnd) (C := RX3) (T := TX3) (N := 9) hx hb hu k_iX3 hown hK hP 0 rfl rfl 4 (by decide) (hu _ u_259) (fun _ h9 => h9) rfl dX3_takeWord_55 ?_
          refine lv_aload_n hx hb dX3_takeWord_58 rfl (lv_at hl 0 rfl) ?_
          refine va_get (D := D) (ci := 3) (v := .int x_size) (C := RX3) (T := TX3) (N := 9) hx hb hu k_iX3 hown hK hP 0 rfl rfl 1 (by decide) (hu _ u_254) (fun _ h9 => h9) rfl dX3_takeWord_59 ?_
          refine lv_icmp_ge (tgt := 92) hx hb dX3_takeWord_62 (by decide) (fun cc_4 => ?_) (fun cc_4 => ?_)
          · have h := (if_pos cc_4).symm.trans h
            have hq := Option.some.inj h
            clear h
            obtain ⟨e0, hq0⟩ := Prod.mk.inj hq
            clear hq
            subst e0
            subst hq0
            exact k_retV hx hb hr hlocks hP hD hS dX3_takeWord_92
          · have h := (if_neg cc_4).symm.trans h
            refine lv_aload_n hx hb dX3_takeWord_65 rfl (lv_at hl 0 rfl) ?_
            refine va_get (D := D) (ci := 3) (v := .ref qx_codes) (C := RX3) (T := TX3) (N := 9) hx hb hu k_iX3 hown hK hP 0 rfl rfl 0 (by decide) (hu _ u_253) (fun _ h9 => h9) rfl dX3_takeWord_66 ?_
            refine lv_aload_n hx hb dX3_takeWord_69 rfl (lv_at hl 0 rfl) ?_
            refine va_get (D := D) (ci := 3) (v := .int x_wordEnd) (C := RX3) (T := TX3) (N := 9) hx hb hu k_iX3 hown hK hP 0 rfl rfl 4 (by decide) (hu _ u_259) (fun _ h9 => h9) rfl dX3_takeWord_70 ?_
            obtain ⟨hin_5, h⟩ := ob_if h
            have hin_5 := inb_in hin_5
            refine va_iald (D := D) hx hb hK hP 1 0 rfl rfl hin_5 dX3_takeWord_73 ?_
            refine lv_bipush (v := (32 : Int32)) hx hb dX3_takeWord_74 (by decide) ?_
            refine lv_icmp_eq (tgt := 92) hx hb dX3_takeWord_76 (by decide) (fun cc_6 => ?_) (fun cc_6 => ?_)
            · have h := (if_pos cc_6).symm.trans h
              have hq := Option.some.inj h
              clear h
              obtain ⟨e0, hq0⟩ := Prod.mk.inj hq
              clear hq
              subst e0
              subst hq0
              exact k_retV hx hb hr hlocks hP hD hS dX3_takeWord_92
            · have h := (if_neg cc_6).symm.trans h
              refine lv_aload_n hx hb dX3_takeWord_79 rfl (lv_at hl 0 rfl) ?_
              refine lv_dup hx hb dX3_takeWord_80 rfl ?_
              refine va_get (D := D) (ci := 3) (v := .int x_wordEnd) (C := RX3) (T := TX3) (N := 9) hx hb hu k_iX3 hown hK hP 0 rfl rfl 4 (by decide) (hu _ u_259) (fun _ h9 => h9) rfl dX3_takeWord_81 ?_
              refine lv_iconst (v := (1 : Int32)) hx hb dX3_takeWord_84 (by decide) ?_
              refine lv_iadd hx hb dX3_takeWord_85 ?_
              refine va_put (D := D) (ci := 3) (v := .int (x_wordEnd + (1 : Int32))) (ty := .int) (C := RX3) (T := TX3) (N := 9) hx hb hu k_iX3 tyX3 tyX3_ok nmX3 hown hK hP hD hS 0 rfl rfl 4 (by decide) (hu _ u_259) (fun _ h9 => h9) rfl (by decide +kernel) rfl rfl (Nat.le_of_ble_eq_true rfl) dX3_takeWord_86 (fun H locs hP hD hS => ?_)
              have hP : va_P D vwCl [(qx, .inr (3, [.ref qx_codes, .int x_size, .int x_faultAt, .int x_wordStart, .int (x_wordEnd + (1 : Int32)), .int x_kind, .int x_first, .int x_second, .int x_digit])), (qx_codes, .inl (cI, 80, .inl x_codes))] H := hP
              have hD : va_D A [(qx, .inr (3, [.ref qx_codes, .int x_size, .int x_faultAt, .int x_wordStart, .int (x_wordEnd + (1 : Int32)), .int x_kind, .int x_first, .int x_second, .int x_digit])), (qx_codes, .inl (cI, 80, .inl x_codes))] := hD
              refine lv_goto (tgt := 54) hx hb dX3_takeWord_89 (by decide) ?_
              exact ih54 x_codes x_size x_wordStart (x_wordEnd + (1 : Int32)) _ _ _ hP hD hS (lv_sub hl [0] rfl) h
      refine lv_aload_n hx hb dX3_takeWord_8 rfl (lv_at hl 0 rfl) ?_
      refine va_get (D := D) (ci := 3) (v := .int x_wordStart) (C := RX3) (T := TX3) (N := 9) hx hb hu k_iX3 hown hK hP 0 rfl rfl 3 (by decide) (hu _ u_258) (fun _ h9 => h9) rfl dX3_takeWord_9 ?_
      refine lv_aload_n hx hb dX3_takeWord_12 rfl (lv_at hl 0 rfl) ?_
      refine va_get (D := D) (ci := 3) (v := .int x_size) (C := RX3) (T := TX3) (N := 9) hx hb hu k_iX3 hown hK hP 0 rfl rfl 1 (by decide) (hu _ u_254) (fun _ h9 => h9) rfl dX3_takeWord_13 ?_
      refine lv_icmp_ge (tgt := 46) hx hb dX3_takeWord_16 (by decide) (fun cc_1 => ?_) (fun cc_1 => ?_)
      · have h := (if_pos cc_1).symm.trans h
        refine lv_aload_n hx hb dX3_takeWord_46 rfl (lv_at hl 0 rfl) ?_
        refine lv_aload_n hx hb dX3_takeWord_47 rfl (lv_at hl 0 rfl) ?_
        refine va_get (D := D) (ci := 3) (v := .int x_wordStart) (C := RX3) (T := TX3) (N := 9) hx hb hu k_iX3 hown hK hP 0 rfl rfl 3 (by decide) (hu _ u_258) (fun _ h9 => h9) rfl dX3_takeWord_48 ?_
        refine va_put (D := D) (ci := 3) (v := .int x_wordStart) (ty := .int) (C := RX3) (T := TX3) (N := 9) hx hb hu k_iX3 tyX3 tyX3_ok nmX3 hown hK hP hD hS 0 rfl rfl 4 (by decide) (hu _ u_259) (fun _ h9 => h9) rfl (by decide +kernel) rfl rfl (Nat.le_of_ble_eq_true rfl) dX3_takeWord_51 (fun H locs hP hD hS => ?_)
        have hP : va_P D vwCl [(qx, .inr (3, [.ref qx_codes, .int x_size, .int x_faultAt, .int x_wordStart, .int x_wordStart, .int x_kind, .int x_first, .int x_second, .int x_digit])), (qx_codes, .inl (cI, 80, .inl x_codes))] H := hP
        have hD : va_D A [(qx, .inr (3, [.ref qx_codes, .int x_size, .int x_faultAt, .int x_wordStart, .int x_wordStart, .int x_kind, .int x_first, .int x_second, .int x_digit])), (qx_codes, .inl (cI, 80, .inl x_codes))] := hD
        exact w54 1000 x_codes x_size x_wordStart x_wordStart _ _ _ hP hD hS (lv_sub hl [0] rfl) h
      · have h := (if_neg cc_1).symm.trans h
        refine lv_aload_n hx hb dX3_takeWord_19 rfl (lv_at hl 0 rfl) ?_
        refine va_get (D := D) (ci := 3) (v := .ref qx_codes) (C := RX3) (T := TX3) (N := 9) hx hb hu k_iX3 hown hK hP 0 rfl rfl 0 (by decide) (hu _ u_253) (fun _ h9 => h9) rfl dX3_takeWord_20 ?_
        refine lv_aload_n hx hb dX3_takeWord_23 rfl (lv_at hl 0 rfl) ?_
        refine va_get (D := D) (ci := 3) (v := .int x_wordStart) (C := RX3) (T := TX3) (N := 9) hx hb hu k_iX3 hown hK hP 0 rfl rfl 3 (by decide) (hu _ u_258) (fun _ h9 => h9) rfl dX3_takeWord_24 ?_
        obtain ⟨hin_2, h⟩ := ob_if h
        have hin_2 := inb_in hin_2
        refine va_iald (D := D) hx hb hK hP 1 0 rfl rfl hin_2 dX3_takeWord_27 ?_
        refine lv_bipush (v := (32 : Int32)) hx hb dX3_takeWord_28 (by decide) ?_
        refine lv_icmp_ne (tgt := 46) hx hb dX3_takeWord_30 (by decide) (fun cc_3 => ?_) (fun cc_3 => ?_)
        · have h := (if_neg cc_3).symm.trans h
          refine lv_aload_n hx hb dX3_takeWord_46 rfl (lv_at hl 0 rfl) ?_
          refine lv_aload_n hx hb dX3_takeWord_47 rfl (lv_at hl 0 rfl) ?_
          refine va_get (D := D) (ci := 3) (v := .int x_wordStart) (C := RX3) (T := TX3) (N := 9) hx hb hu k_iX3 hown hK hP 0 rfl rfl 3 (by decide) (hu _ u_258) (fun _ h9 => h9) rfl dX3_takeWord_48 ?_
          refine va_put (D := D) (ci := 3) (v := .int x_wordStart) (ty := .int) (C := RX3) (T := TX3) (N := 9) hx hb hu k_iX3 tyX3 tyX3_ok nmX3 hown hK hP hD hS 0 rfl rfl 4 (by decide) (hu _ u_259) (fun _ h9 => h9) rfl (by decide +kernel) rfl rfl (Nat.le_of_ble_eq_true rfl) dX3_takeWord_51 (fun H locs hP hD hS => ?_)
          have hP : va_P D vwCl [(qx, .inr (3, [.ref qx_codes, .int x_size, .int x_faultAt, .int x_wordStart, .int x_wordStart, .int x_kind, .int x_first, .int x_second, .int x_digit])), (qx_codes, .inl (cI, 80, .inl x_codes))] H := hP
          have hD : va_D A [(qx, .inr (3, [.ref qx_codes, .int x_size, .int x_faultAt, .int x_wordStart, .int x_wordStart, .int x_kind, .int x_first, .int x_second, .int x_digit])), (qx_codes, .inl (cI, 80, .inl x_codes))] := hD
          exact w54 1000 x_codes x_size x_wordStart x_wordStart _ _ _ hP hD hS (lv_sub hl [0] rfl) h
        · have h := (if_pos cc_3).symm.trans h
          refine lv_aload_n hx hb dX3_takeWord_33 rfl (lv_at hl 0 rfl) ?_
          refine lv_dup hx hb dX3_takeWord_34 rfl ?_
          refine va_get (D := D) (ci := 3) (v := .int x_wordStart) (C := RX3) (T := TX3) (N := 9) hx hb hu k_iX3 hown hK hP 0 rfl rfl 3 (by decide) (hu _ u_258) (fun _ h9 => h9) rfl dX3_takeWord_35 ?_
          refine lv_iconst (v := (1 : Int32)) hx hb dX3_takeWord_38 (by decide) ?_
          refine lv_iadd hx hb dX3_takeWord_39 ?_
          refine va_put (D := D) (ci := 3) (v := .int (x_wordStart + (1 : Int32))) (ty := .int) (C := RX3) (T := TX3) (N := 9) hx hb hu k_iX3 tyX3 tyX3_ok nmX3 hown hK hP hD hS 0 rfl rfl 3 (by decide) (hu _ u_258) (fun _ h9 => h9) rfl (by decide +kernel) rfl rfl (Nat.le_of_ble_eq_true rfl) dX3_takeWord_40 (fun H locs hP hD hS => ?_)
          have hP : va_P D vwCl [(qx, .inr (3, [.ref qx_codes, .int x_size, .int x_faultAt, .int (x_wordStart + (1 : Int32)), .int x_wordEnd, .int x_kind, .int x_first, .int x_second, .int x_digit])), (qx_codes, .inl (cI, 80, .inl x_codes))] H := hP
          have hD : va_D A [(qx, .inr (3, [.ref qx_codes, .int x_size, .int x_faultAt, .int (x_wordStart + (1 : Int32)), .int x_wordEnd, .int x_kind, .int x_first, .int x_second, .int x_digit])), (qx_codes, .inl (cI, 80, .inl x_codes))] := hD
          refine lv_goto (tgt := 8) hx hb dX3_takeWord_43 (by decide) ?_
          exact ih8 x_codes x_size (x_wordStart + (1 : Int32)) x_wordEnd _ _ _ hP hD hS (lv_sub hl [0] rfl) h
  refine lv_aload_n hx hb dX3_takeWord_0 rfl (lv_at hl 0 rfl) ?_
  refine lv_aload_n hx hb dX3_takeWord_1 rfl (lv_at hl 0 rfl) ?_
  refine va_get (D := D) (ci := 3) (v := .int x_wordEnd) (C := RX3) (T := TX3) (N := 9) hx hb hu k_iX3 hown hK hP 0 rfl rfl 4 (by decide) (hu _ u_259) (fun _ h9 => h9) rfl dX3_takeWord_2 ?_
  refine va_put (D := D) (ci := 3) (v := .int x_wordEnd) (ty := .int) (C := RX3) (T := TX3) (N := 9) hx hb hu k_iX3 tyX3 tyX3_ok nmX3 hown hK hP hD hS 0 rfl rfl 3 (by decide) (hu _ u_258) (fun _ h9 => h9) rfl (by decide +kernel) rfl rfl (Nat.le_of_ble_eq_true rfl) dX3_takeWord_5 (fun H locs hP hD hS => ?_)
  have hP : va_P D vwCl [(qx, .inr (3, [.ref qx_codes, .int x_size, .int x_faultAt, .int x_wordEnd, .int x_wordEnd, .int x_kind, .int x_first, .int x_second, .int x_digit])), (qx_codes, .inl (cI, 80, .inl x_codes))] H := hP
  have hD : va_D A [(qx, .inr (3, [.ref qx_codes, .int x_size, .int x_faultAt, .int x_wordEnd, .int x_wordEnd, .int x_kind, .int x_first, .int x_second, .int x_digit])), (qx_codes, .inl (cI, 80, .inl x_codes))] := hD
  exact w8 1000 x_codes x_size x_wordEnd x_wordEnd _ _ _ hP hD hS (lv_sub hl [0] rfl) h
def f_X3_wordIs_b20 (si : Nat)  : Nat → Int32 → (Nat → Int32) → Int32 → Int32 → Option (Int32)
  | 0, _, _, _, _ => none
  | n + 1, x2, x_codes, x_wordStart, x_wordEnd =>
    if (nI (k_slen.getD si 0)) ≤ x2 then
      some ((1 : Int32))
    else
      if inb (x_wordStart + x2) 80 = true then
      if inb x2 (k_slen.getD si 0) = true then
      if (x_codes (Int32.toNatClampNeg (x_wordStart + x2))) = ((k_sbyt.getD si []).getD (Int32.toNatClampNeg x2) 0) then
        (f_X3_wordIs_b20 si n) (x2 + (1 : Int32)) x_codes x_wordStart x_wordEnd
      else
        some ((0 : Int32))
      else none
      else none
def f_X3_wordIs (si : Nat) (x_codes : (Nat → Int32)) (x_wordStart : Int32) (x_wordEnd : Int32) : Option (Int32) :=
  if (x_wordEnd - x_wordStart) = (nI (k_slen.getD si 0)) then
    f_X3_wordIs_b20 si 1000 (0 : Int32) x_codes x_wordStart x_wordEnd
  else
    some ((0 : Int32))
set_option maxHeartbeats 4000000 in
set_option maxRecDepth 100000 in
theorem c_X3_wordIs (l : Launch) (D : va_G) (cI cZ cN : ClassId) (aK aV : Nat → Nat) (si : Nat) (hsi : si < 5) (qx : Nat) (qx_codes : Nat) (x_codes : (Nat → Int32)) (x_size : Int32) (x_faultAt : Int32) (x_wordStart : Int32) (x_wordEnd : Int32) (x_kind : Int32) (x_first : Int32) (x_second : Int32) (x_digit : Int32) (r : Int32) (h : f_X3_wordIs si x_codes x_wordStart x_wordEnd = some r) : CtI l D cI cZ cN aK aV yX3_wordIs (k_W yX3_wordIs cX3_wordIs 3 (some .boolean)) { frames := 4, cells := 0, slots := 0, locals := 85 } [.ref qx, .ref (aK si)] [(qx, .inr (3, [.ref qx_codes, .int x_size, .int x_faultAt, .int x_wordStart, .int x_wordEnd, .int x_kind, .int x_first, .int x_second, .int x_digit])), (qx_codes, .inl (cI, 80, .inl x_codes))] r [(qx, .inr (3, [.ref qx_codes, .int x_size, .int x_faultAt, .int x_wordStart, .int x_wordEnd, .int x_kind, .int x_first, .int x_second, .int x_digit])), (qx_codes, .inl (cI, 80, .inl x_codes))] := by
  refine k_startI (by decide) (Nat.le_of_ble_eq_true rfl) ?_
  intro p e s m below meth c A ls hx hb hr hml hown hts hlocks hT hZ hA hP hD hS hl
  have hK := hT.1
  have hu : ∀ w ∈ k_U, w.before ([.ref qx, .ref (aK si)] : List Value).toArray s = true := fun w h => hts w (List.mem_cons_of_mem _ h)
  have hown : s.vm.findClass RX3 = some m.cls := hown
  have hl : lv_has ls 3 [(0, .ref qx), (1, .ref (aK si))] := hl
  unfold f_X3_wordIs at h
  have w20 : ∀ (n20 : Nat) (x2 : Int32) (x_codes : (Nat → Int32)) (x_wordStart : Int32) (x_wordEnd : Int32) (H : Heap) (locs : List Loc) (ls : Array Slot), va_P D vwCl [(qx, .inr (3, [.ref qx_codes, .int x_size, .int x_faultAt, .int x_wordStart, .int x_wordEnd, .int x_kind, .int x_first, .int x_second, .int x_digit])), (qx_codes, .inl (cI, 80, .inl x_codes))] H → va_D A [(qx, .inr (3, [.ref qx_codes, .int x_size, .int x_faultAt, .int x_wordStart, .int x_wordEnd, .int x_kind, .int x_first, .int x_second, .int x_digit])), (qx_codes, .inl (cI, 80, .inl x_codes))] → va_S A s.heap H locs → lv_has ls 3 [(0, .ref qx), (1, .ref (aK si)), (2, .int x2)] → f_X3_wordIs_b20 si n20 x2 x_codes x_wordStart x_wordEnd = some r → W p l e { frames := 4, cells := 0, slots := 0, locals := 85 } s m ([.ref qx, .ref (aK si)] : List Value).toArray below meth c H locs 0 0 (MQ below (k_QI D r [(qx, .inr (3, [.ref qx_codes, .int x_size, .int x_faultAt, .int x_wordStart, .int x_wordEnd, .int x_kind, .int x_first, .int x_second, .int x_digit])), (qx_codes, .inl (cI, 80, .inl x_codes))] A) ([.ref qx, .ref (aK si)] : List Value).toArray s 0 0 A) (F0 m 20 ls []) := by
    intro n20
    induction n20 with
    | zero =>
      intro x2 x_codes x_wordStart x_wordEnd H locs ls hP hD hS hl h
      rw [f_X3_wordIs_b20] at h
      cases h
    | succ n20 ih20 =>
      intro x2 x_codes x_wordStart x_wordEnd H locs ls hP hD hS hl h
      rw [f_X3_wordIs_b20] at h
      refine lv_iload_n hx hb dX3_wordIs_20 rfl (lv_at hl 2 rfl) ?_
      refine lv_aload_n hx hb dX3_wordIs_21 rfl (lv_at hl 1 rfl) ?_
      refine k_callL hsi (As := []) (rest := [.int x2]) ⟨hx, hb, hml, hown, hts⟩ hT hZ hA hP hD hS (c_J0_length_8abf5 l D cI cZ cN aK aV si hsi) ⟨callB_of 0 hts (k_good u_623) rfl rfl rfl (hu _ u_55) (hu _ u_620) (by decide +kernel) ⟨Nat.le_of_ble_eq_true rfl, Nat.le_of_ble_eq_true rfl⟩, hu _ u_621, hu _ u_622⟩ rfl hl.1 rfl (Nat.le_of_ble_eq_true rfl) dX3_wordIs_22 (fun H locs hP hD hS => ?_)
      refine lv_icmp_ge (tgt := 55) hx hb dX3_wordIs_25 (by decide) (fun cc_2 => ?_) (fun cc_2 => ?_)
      · have h := (if_pos cc_2).symm.trans h
        refine lv_iconst (v := (1 : Int32)) hx hb dX3_wordIs_55 (by decide) ?_
        have hq := Option.some.inj h
        clear h
        subst hq
        exact k_retZ hx hb hr hlocks (Or.inr rfl) hP hD hS dX3_wordIs_56
      · have h := (if_neg cc_2).symm.trans h
        refine lv_aload_n hx hb dX3_wordIs_28 rfl (lv_at hl 0 rfl) ?_
        refine va_get (D := D) (ci := 3) (v := .ref qx_codes) (C := RX3) (T := TX3) (N := 9) hx hb hu k_iX3 hown hK hP 0 rfl rfl 0 (by decide) (hu _ u_253) (fun _ h9 => h9) rfl dX3_wordIs_29 ?_
        refine lv_aload_n hx hb dX3_wordIs_32 rfl (lv_at hl 0 rfl) ?_
        refine va_get (D := D) (ci := 3) (v := .int x_wordStart) (C := RX3) (T := TX3) (N := 9) hx hb hu k_iX3 hown hK hP 0 rfl rfl 3 (by decide) (hu _ u_258) (fun _ h9 => h9) rfl dX3_wordIs_33 ?_
        refine lv_iload_n hx hb dX3_wordIs_36 rfl (lv_at hl 2 rfl) ?_
        refine lv_iadd hx hb dX3_wordIs_37 ?_
        obtain ⟨hin_3, h⟩ := ob_if h
        have hin_3 := inb_in hin_3
        refine va_iald (D := D) hx hb hK hP 1 0 rfl rfl hin_3 dX3_wordIs_38 ?_
        refine lv_aload_n hx hb dX3_wordIs_39 rfl (lv_at hl 1 rfl) ?_
        refine lv_iload_n hx hb dX3_wordIs_40 rfl (lv_at hl 2 rfl) ?_
        obtain ⟨hin_4, h⟩ := ob_if h
        have hin_4 := inb_in hin_4
        refine k_callL hsi (As := [.int x2]) (rest := [.int (x_codes (Int32.toNatClampNeg (x_wordStart + x2)))]) ⟨hx, hb, hml, hown, hts⟩ hT hZ hA hP hD hS (c_J0_charAt_5068e l D cI cZ cN aK aV si hsi x2 hin_4) ⟨callB_of 1 hts (k_good u_633) rfl rfl rfl (hu _ u_55) (hu _ u_630) (by decide +kernel) ⟨Nat.le_of_ble_eq_true rfl, Nat.le_of_ble_eq_true rfl⟩, hu _ u_631, hu _ u_632⟩ rfl hl.1 rfl (Nat.le_of_ble_eq_true rfl) dX3_wordIs_41 (fun H locs hP hD hS => ?_)
        refine lv_icmp_eq (tgt := 49) hx hb dX3_wordIs_44 (by decide) (fun cc_5 => ?_) (fun cc_5 => ?_)
        · have h := (if_pos cc_5).symm.trans h
          refine lv_iinc (v := (x2 + (1 : Int32))) (lv' := [(2, .int (x2 + (1 : Int32))), (0, .ref qx), (1, .ref (aK si))]) hx hb dX3_wordIs_49 hl (k := 2) rfl rfl (by decide) rfl (fun ls hl => ?_)
          refine lv_goto (tgt := 20) hx hb dX3_wordIs_52 (by decide) ?_
          exact ih20 (x2 + (1 : Int32)) x_codes x_wordStart x_wordEnd _ _ _ hP hD hS (lv_sub hl [1, 2, 0] rfl) h
        · have h := (if_neg cc_5).symm.trans h
          refine lv_iconst (v := (0 : Int32)) hx hb dX3_wordIs_47 (by decide) ?_
          have hq := Option.some.inj h
          clear h
          subst hq
          exact k_retZ hx hb hr hlocks (Or.inl rfl) hP hD hS dX3_wordIs_48
  refine lv_aload_n hx hb dX3_wordIs_0 rfl (lv_at hl 0 rfl) ?_
  refine va_get (D := D) (ci := 3) (v := .int x_wordEnd) (C := RX3) (T := TX3) (N := 9) hx hb hu k_iX3 hown hK hP 0 rfl rfl 4 (by decide) (hu _ u_259) (fun _ h9 => h9) rfl dX3_wordIs_1 ?_
  refine lv_aload_n hx hb dX3_wordIs_4 rfl (lv_at hl 0 rfl) ?_
  refine va_get (D := D) (ci := 3) (v := .int x_wordStart) (C := RX3) (T := TX3) (N := 9) hx hb hu k_iX3 hown hK hP 0 rfl rfl 3 (by decide) (hu _ u_258) (fun _ h9 => h9) rfl dX3_wordIs_5 ?_
  refine lv_isub hx hb dX3_wordIs_8 ?_
  refine lv_aload_n hx hb dX3_wordIs_9 rfl (lv_at hl 1 rfl) ?_
  refine k_callL hsi (As := []) (rest := [.int (x_wordEnd - x_wordStart)]) ⟨hx, hb, hml, hown, hts⟩ hT hZ hA hP hD hS (c_J0_length_8abf5 l D cI cZ cN aK aV si hsi) ⟨callB_of 0 hts (k_good u_623) rfl rfl rfl (hu _ u_55) (hu _ u_620) (by decide +kernel) ⟨Nat.le_of_ble_eq_true rfl, Nat.le_of_ble_eq_true rfl⟩, hu _ u_621, hu _ u_622⟩ rfl hl.1 rfl (Nat.le_of_ble_eq_true rfl) dX3_wordIs_10 (fun H locs hP hD hS => ?_)
  refine lv_icmp_eq (tgt := 18) hx hb dX3_wordIs_13 (by decide) (fun cc_1 => ?_) (fun cc_1 => ?_)
  · have h := (if_pos cc_1).symm.trans h
    refine lv_iconst (v := (0 : Int32)) hx hb dX3_wordIs_18 (by decide) ?_
    refine lv_istore_n (lv' := [(2, .int (0 : Int32)), (0, .ref qx), (1, .ref (aK si))]) hx hb dX3_wordIs_19 rfl hl (by decide) rfl (fun ls hl => ?_)
    exact w20 1000 (0 : Int32) x_codes x_wordStart x_wordEnd _ _ _ hP hD hS (lv_sub hl [1, 2, 0] rfl) h
  · have h := (if_neg cc_1).symm.trans h
    refine lv_iconst (v := (0 : Int32)) hx hb dX3_wordIs_16 (by decide) ?_
    have hq := Option.some.inj h
    clear h
    subst hq
    exact k_retZ hx hb hr hlocks (Or.inl rfl) hP hD hS dX3_wordIs_17
def f_X3_kindOfWord (x_codes : (Nat → Int32)) (x_wordStart : Int32) (x_wordEnd : Int32) : Option (Int32) :=
  (f_X3_wordIs 0 x_codes x_wordStart x_wordEnd).bind fun r_1 =>
  if r_1 = (0 : Int32) then
    (f_X3_wordIs 1 x_codes x_wordStart x_wordEnd).bind fun r_4 =>
    if r_4 = (0 : Int32) then
      (f_X3_wordIs 2 x_codes x_wordStart x_wordEnd).bind fun r_7 =>
      if r_7 = (0 : Int32) then
        (f_X3_wordIs 3 x_codes x_wordStart x_wordEnd).bind fun r_10 =>
        if r_10 = (0 : Int32) then
          (f_X3_wordIs 4 x_codes x_wordStart x_wordEnd).bind fun r_13 =>
          if r_13 = (0 : Int32) then
            some ((5 : Int32))
          else
            some ((4 : Int32))
        else
          some ((3 : Int32))
      else
        some ((2 : Int32))
    else
      some ((1 : Int32))
  else
    some ((0 : Int32))
set_option maxHeartbeats 4000000 in
set_option maxRecDepth 100000 in
theorem c_X3_kindOfWord (l : Launch) (D : va_G) (cI cZ cN : ClassId) (aK aV : Nat → Nat)  (qx : Nat) (qx_codes : Nat) (x_codes : (Nat → Int32)) (x_size : Int32) (x_faultAt : Int32) (x_wordStart : Int32) (x_wordEnd : Int32) (x_kind : Int32) (x_first : Int32) (x_second : Int32) (x_digit : Int32) (r : Int32) (h : f_X3_kindOfWord x_codes x_wordStart x_wordEnd = some r) : CtI l D cI cZ cN aK aV yX3_kindOfWord (k_W yX3_kindOfWord cX3_kindOfWord 1 (some .int)) { frames := 5, cells := 0, slots := 0, locals := 107 } [.ref qx] [(qx, .inr (3, [.ref qx_codes, .int x_size, .int x_faultAt, .int x_wordStart, .int x_wordEnd, .int x_kind, .int x_first, .int x_second, .int x_digit])), (qx_codes, .inl (cI, 80, .inl x_codes))] r [(qx, .inr (3, [.ref qx_codes, .int x_size, .int x_faultAt, .int x_wordStart, .int x_wordEnd, .int x_kind, .int x_first, .int x_second, .int x_digit])), (qx_codes, .inl (cI, 80, .inl x_codes))] := by
  refine k_startI (by decide) (Nat.le_of_ble_eq_true rfl) ?_
  intro p e s m below meth c A ls hx hb hr hml hown hts hlocks hT hZ hA hP hD hS hl
  have hK := hT.1
  have hu : ∀ w ∈ k_U, w.before ([.ref qx] : List Value).toArray s = true := fun w h => hts w (List.mem_cons_of_mem _ h)
  have hown : s.vm.findClass RX3 = some m.cls := hown
  have hl : lv_has ls 1 [(0, .ref qx)] := hl
  unfold f_X3_kindOfWord at h
  refine lv_aload_n hx hb dX3_kindOfWord_0 rfl (lv_at hl 0 rfl) ?_
  refine va_ldcS hx hb hown hZ.2.2.2.1 dX3_kindOfWord_1 ?_
  obtain ⟨r_1, hc_2, h⟩ := ob_bind h
  refine k_callVIr (qb := 0) [0, 1] (As := [.ref (aK 0)]) (rest := []) ⟨hx, hb, hml, hown, hts⟩ hT hZ hA hP hD hS (c_X3_wordIs l D cI cZ cN aK aV 0 (by decide) qx qx_codes x_codes x_size x_faultAt x_wordStart x_wordEnd x_kind x_first x_second x_digit r_1 hc_2) ⟨callB_of 1 hts (k_good u_619) rfl rfl rfl (hu _ u_50) (hu _ u_616) (by decide +kernel) ⟨Nat.le_of_ble_eq_true rfl, Nat.le_of_ble_eq_true rfl⟩, hu _ u_618, hu _ u_13⟩ rfl rfl rfl (by decide) rfl hl.1 rfl (Nat.le_of_ble_eq_true rfl) dX3_kindOfWord_3 (fun H locs hP hD hS => ?_)
  refine lv_if_eq (tgt := 11) hx hb dX3_kindOfWord_6 (by decide) (fun cc_3 => ?_) (fun cc_3 => ?_)
  · have h := (if_pos cc_3).symm.trans h
    refine lv_aload_n hx hb dX3_kindOfWord_11 rfl (lv_at hl 0 rfl) ?_
    refine va_ldcS hx hb hown hZ.2.2.2.2.1 dX3_kindOfWord_12 ?_
    obtain ⟨r_4, hc_5, h⟩ := ob_bind h
    refine k_callVIr (qb := 0) [0, 1] (As := [.ref (aK 1)]) (rest := []) ⟨hx, hb, hml, hown, hts⟩ hT hZ hA hP hD hS (c_X3_wordIs l D cI cZ cN aK aV 1 (by decide) qx qx_codes x_codes x_size x_faultAt x_wordStart x_wordEnd x_kind x_first x_second x_digit r_4 hc_5) ⟨callB_of 1 hts (k_good u_619) rfl rfl rfl (hu _ u_50) (hu _ u_616) (by decide +kernel) ⟨Nat.le_of_ble_eq_true rfl, Nat.le_of_ble_eq_true rfl⟩, hu _ u_618, hu _ u_13⟩ rfl rfl rfl (by decide) rfl hl.1 rfl (Nat.le_of_ble_eq_true rfl) dX3_kindOfWord_14 (fun H locs hP hD hS => ?_)
    refine lv_if_eq (tgt := 22) hx hb dX3_kindOfWord_17 (by decide) (fun cc_6 => ?_) (fun cc_6 => ?_)
    · have h := (if_pos cc_6).symm.trans h
      refine lv_aload_n hx hb dX3_kindOfWord_22 rfl (lv_at hl 0 rfl) ?_
      refine va_ldcS hx hb hown hZ.2.2.2.2.2.1 dX3_kindOfWord_23 ?_
      obtain ⟨r_7, hc_8, h⟩ := ob_bind h
      refine k_callVIr (qb := 0) [0, 1] (As := [.ref (aK 2)]) (rest := []) ⟨hx, hb, hml, hown, hts⟩ hT hZ hA hP hD hS (c_X3_wordIs l D cI cZ cN aK aV 2 (by decide) qx qx_codes x_codes x_size x_faultAt x_wordStart x_wordEnd x_kind x_first x_second x_digit r_7 hc_8) ⟨callB_of 1 hts (k_good u_619) rfl rfl rfl (hu _ u_50) (hu _ u_616) (by decide +kernel) ⟨Nat.le_of_ble_eq_true rfl, Nat.le_of_ble_eq_true rfl⟩, hu _ u_618, hu _ u_13⟩ rfl rfl rfl (by decide) rfl hl.1 rfl (Nat.le_of_ble_eq_true rfl) dX3_kindOfWord_25 (fun H locs hP hD hS => ?_)
      refine lv_if_eq (tgt := 33) hx hb dX3_kindOfWord_28 (by decide) (fun cc_9 => ?_) (fun cc_9 => ?_)
      · have h := (if_pos cc_9).symm.trans h
        refine lv_aload_n hx hb dX3_kindOfWord_33 rfl (lv_at hl 0 rfl) ?_
        refine va_ldcS hx hb hown hZ.2.2.2.2.2.2.1 dX3_kindOfWord_34 ?_
        obtain ⟨r_10, hc_11, h⟩ := ob_bind h
        refine k_callVIr (qb := 0) [0, 1] (As := [.ref (aK 3)]) (rest := []) ⟨hx, hb, hml, hown, hts⟩ hT hZ hA hP hD hS (c_X3_wordIs l D cI cZ cN aK aV 3 (by decide) qx qx_codes x_codes x_size x_faultAt x_wordStart x_wordEnd x_kind x_first x_second x_digit r_10 hc_11) ⟨callB_of 1 hts (k_good u_619) rfl rfl rfl (hu _ u_50) (hu _ u_616) (by decide +kernel) ⟨Nat.le_of_ble_eq_true rfl, Nat.le_of_ble_eq_true rfl⟩, hu _ u_618, hu _ u_13⟩ rfl rfl rfl (by decide) rfl hl.1 rfl (Nat.le_of_ble_eq_true rfl) dX3_kindOfWord_36 (fun H locs hP hD hS => ?_)
        refine lv_if_eq (tgt := 44) hx hb dX3_kindOfWord_39 (by decide) (fun cc_12 => ?_) (fun cc_12 => ?_)
        · have h := (if_pos cc_12).symm.trans h
          refine lv_aload_n hx hb dX3_kindOfWord_44 rfl (lv_at hl 0 rfl) ?_
          refine va_ldcS hx hb hown hZ.2.2.2.2.2.2.2 dX3_kindOfWord_45 ?_
          obtain ⟨r_13, hc_14, h⟩ := ob_bind h
          refine k_callVIr (qb := 0) [0, 1] (As := [.ref (aK 4)]) (rest := []) ⟨hx, hb, hml, hown, hts⟩ hT hZ hA hP hD hS (c_X3_wordIs l D cI cZ cN aK aV 4 (by decide) qx qx_codes x_codes x_size x_faultAt x_wordStart x_wordEnd x_kind x_first x_second x_digit r_13 hc_14) ⟨callB_of 1 hts (k_good u_619) rfl rfl rfl (hu _ u_50) (hu _ u_616) (by decide +kernel) ⟨Nat.le_of_ble_eq_true rfl, Nat.le_of_ble_eq_true rfl⟩, hu _ u_618, hu _ u_13⟩ rfl rfl rfl (by decide) rfl hl.1 rfl (Nat.le_of_ble_eq_true rfl) dX3_kindOfWord_47 (fun H locs hP hD hS => ?_)
          refine lv_if_eq (tgt := 57) hx hb dX3_kindOfWord_50 (by decide) (fun cc_15 => ?_) (fun cc_15 => ?_)
          · have h := (if_pos cc_15).symm.trans h
            refine lv_iconst (v := (5 : Int32)) hx hb dX3_kindOfWord_57 (by decide) ?_
            have hq := Option.some.inj h
            clear h
            subst hq
            exact k_retI hx hb hr hlocks hP hD hS dX3_kindOfWord_58
          · have h := (if_neg cc_15).symm.trans h
            refine lv_iconst (v := (4 : Int32)) hx hb dX3_kindOfWord_53 (by decide) ?_
            refine lv_goto (tgt := 58) hx hb dX3_kindOfWord_54 (by decide) ?_
            have hq := Option.some.inj h
            clear h
            subst hq
            exact k_retI hx hb hr hlocks hP hD hS dX3_kindOfWord_58
        · have h := (if_neg cc_12).symm.trans h
          refine lv_iconst (v := (3 : Int32)) hx hb dX3_kindOfWord_42 (by decide) ?_
          have hq := Option.some.inj h
          clear h
          subst hq
          exact k_retI hx hb hr hlocks hP hD hS dX3_kindOfWord_43
      · have h := (if_neg cc_9).symm.trans h
        refine lv_iconst (v := (2 : Int32)) hx hb dX3_kindOfWord_31 (by decide) ?_
        have hq := Option.some.inj h
        clear h
        subst hq
        exact k_retI hx hb hr hlocks hP hD hS dX3_kindOfWord_32
    · have h := (if_neg cc_6).symm.trans h
      refine lv_iconst (v := (1 : Int32)) hx hb dX3_kindOfWord_20 (by decide) ?_
      have hq := Option.some.inj h
      clear h
      subst hq
      exact k_retI hx hb hr hlocks hP hD hS dX3_kindOfWord_21
  · have h := (if_neg cc_3).symm.trans h
    refine lv_iconst (v := (0 : Int32)) hx hb dX3_kindOfWord_9 (by decide) ?_
    have hq := Option.some.inj h
    clear h
    subst hq
    exact k_retI hx hb hr hlocks hP hD hS dX3_kindOfWord_10
def f_X3_readSign (p1 : Int32) (p2 : Int32) (x_codes : (Nat → Int32)) (x_size : Int32) (x_faultAt : Int32) (x_wordStart : Int32) (x_wordEnd : Int32) : Option (Int32 × Int32 × Int32 × Int32) :=
  (f_X3_takeWord x_codes x_size x_wordStart x_wordEnd).bind fun ⟨o_1, o_2⟩ =>
  if (o_2 - o_1) = (1 : Int32) then
    if inb o_1 80 = true then
    if (x_codes (Int32.toNatClampNeg o_1)) < p1 then
      some ((0 : Int32), o_1, o_1, o_2)
    else
      if p2 < (x_codes (Int32.toNatClampNeg o_1)) then
        some ((0 : Int32), o_1, o_1, o_2)
      else
        some ((1 : Int32), x_faultAt, o_1, o_2)
    else none
  else
    some ((0 : Int32), o_1, o_1, o_2)
set_option maxHeartbeats 4000000 in
set_option maxRecDepth 100000 in
theorem c_X3_readSign (l : Launch) (D : va_G) (cI cZ cN : ClassId) (aK aV : Nat → Nat)  (qx : Nat) (qx_codes : Nat) (x_codes : (Nat → Int32)) (x_size : Int32) (x_faultAt : Int32) (x_wordStart : Int32) (x_wordEnd : Int32) (x_kind : Int32) (x_first : Int32) (x_second : Int32) (x_digit : Int32) (p1 p2 : Int32) (r : Int32) (z_x_faultAt : Int32) (z_x_wordStart : Int32) (z_x_wordEnd : Int32) (h : f_X3_readSign p1 p2 x_codes x_size x_faultAt x_wordStart x_wordEnd = some (r, z_x_faultAt, z_x_wordStart, z_x_wordEnd)) : CtI l D cI cZ cN aK aV yX3_readSign (k_W yX3_readSign cX3_readSign 3 (some .boolean)) { frames := 1, cells := 0, slots := 0, locals := 20 } [.ref qx, .int p1, .int p2] [(qx, .inr (3, [.ref qx_codes, .int x_size, .int x_faultAt, .int x_wordStart, .int x_wordEnd, .int x_kind, .int x_first, .int x_second, .int x_digit])), (qx_codes, .inl (cI, 80, .inl x_codes))] r [(qx, .inr (3, [.ref qx_codes, .int x_size, .int z_x_faultAt, .int z_x_wordStart, .int z_x_wordEnd, .int x_kind, .int x_first, .int x_second, .int x_digit])), (qx_codes, .inl (cI, 80, .inl x_codes))] := by
  refine k_startI (by decide) (Nat.le_of_ble_eq_true rfl) ?_
  intro p e s m below meth c A ls hx hb hr hml hown hts hlocks hT hZ hA hP hD hS hl
  have hK := hT.1
  have hu : ∀ w ∈ k_U, w.before ([.ref qx, .int p1, .int p2] : List Value).toArray s = true := fun w h => hts w (List.mem_cons_of_mem _ h)
  have hown : s.vm.findClass RX3 = some m.cls := hown
  have hl : lv_has ls 3 [(0, .ref qx), (1, .int p1), (2, .int p2)] := hl
  unfold f_X3_readSign at h
  refine lv_aload_n hx hb dX3_readSign_0 rfl (lv_at hl 0 rfl) ?_
  obtain ⟨⟨o_1, o_2⟩, hc_3, h⟩ := ob_bind h
  dsimp only at h
  refine k_callVV (qb := 0) [0, 1] [0] [0] [(qx, .inr (3, [.ref qx_codes, .int x_size, .int x_faultAt, .int o_1, .int o_2, .int x_kind, .int x_first, .int x_second, .int x_digit]))] (As := []) (rest := []) ⟨hx, hb, hml, hown, hts⟩ hT hZ hA hP hD hS (c_X3_takeWord l D cI cZ cN aK aV qx qx_codes x_codes x_size x_faultAt x_wordStart x_wordEnd x_kind x_first x_second x_digit o_1 o_2 hc_3) ⟨callB_of 0 hts (k_good u_610) rfl rfl rfl (hu _ u_50) (hu _ u_607) (by decide +kernel) ⟨Nat.le_of_ble_eq_true rfl, Nat.le_of_ble_eq_true rfl⟩, hu _ u_609, hu _ u_11⟩ rfl rfl rfl (by decide) (by decide) (by decide) rfl rfl rfl rfl hl.1 rfl (Nat.le_of_ble_eq_true rfl) dX3_readSign_1 (fun H locs hP hD hS => ?_)
  have hP : va_P D vwCl [(qx, .inr (3, [.ref qx_codes, .int x_size, .int x_faultAt, .int o_1, .int o_2, .int x_kind, .int x_first, .int x_second, .int x_digit])), (qx_codes, .inl (cI, 80, .inl x_codes))] H := hP
  have hD : va_D A [(qx, .inr (3, [.ref qx_codes, .int x_size, .int x_faultAt, .int o_1, .int o_2, .int x_kind, .int x_first, .int x_second, .int x_digit])), (qx_codes, .inl (cI, 80, .inl x_codes))] := hD
  refine lv_aload_n hx hb dX3_readSign_4 rfl (lv_at hl 0 rfl) ?_
  refine va_get (D := D) (ci := 3) (v := .int o_2) (C := RX3) (T := TX3) (N := 9) hx hb hu k_iX3 hown hK hP 0 rfl rfl 4 (by decide) (hu _ u_259) (fun _ h9 => h9) rfl dX3_readSign_5 ?_
  refine lv_aload_n hx hb dX3_readSign_8 rfl (lv_at hl 0 rfl) ?_
  refine va_get (D := D) (ci := 3) (v := .int o_1) (C := RX3) (T := TX3) (N := 9) hx hb hu k_iX3 hown hK hP 0 rfl rfl 3 (by decide) (hu _ u_258) (fun _ h9 => h9) rfl dX3_readSign_9 ?_
  refine lv_isub hx hb dX3_readSign_12 ?_
  refine lv_iconst (v := (1 : Int32)) hx hb dX3_readSign_13 (by decide) ?_
  refine lv_icmp_ne (tgt := 45) hx hb dX3_readSign_14 (by decide) (fun cc_4 => ?_) (fun cc_4 => ?_)
  · have h := (if_neg cc_4).symm.trans h
    refine lv_aload_n hx hb dX3_readSign_45 rfl (lv_at hl 0 rfl) ?_
    refine lv_aload_n hx hb dX3_readSign_46 rfl (lv_at hl 0 rfl) ?_
    refine va_get (D := D) (ci := 3) (v := .int o_1) (C := RX3) (T := TX3) (N := 9) hx hb hu k_iX3 hown hK hP 0 rfl rfl 3 (by decide) (hu _ u_258) (fun _ h9 => h9) rfl dX3_readSign_47 ?_
    refine va_put (D := D) (ci := 3) (v := .int o_1) (ty := .int) (C := RX3) (T := TX3) (N := 9) hx hb hu k_iX3 tyX3 tyX3_ok nmX3 hown hK hP hD hS 0 rfl rfl 2 (by decide) (hu _ u_256) (fun _ h9 => h9) rfl (by decide +kernel) rfl rfl (Nat.le_of_ble_eq_true rfl) dX3_readSign_50 (fun H locs hP hD hS => ?_)
    have hP : va_P D vwCl [(qx, .inr (3, [.ref qx_codes, .int x_size, .int o_1, .int o_1, .int o_2, .int x_kind, .int x_first, .int x_second, .int x_digit])), (qx_codes, .inl (cI, 80, .inl x_codes))] H := hP
    have hD : va_D A [(qx, .inr (3, [.ref qx_codes, .int x_size, .int o_1, .int o_1, .int o_2, .int x_kind, .int x_first, .int x_second, .int x_digit])), (qx_codes, .inl (cI, 80, .inl x_codes))] := hD
    refine lv_iconst (v := (0 : Int32)) hx hb dX3_readSign_53 (by decide) ?_
    have hq := Option.some.inj h
    clear h
    obtain ⟨e0, hq0⟩ := Prod.mk.inj hq
    clear hq
    obtain ⟨e1, hq1⟩ := Prod.mk.inj hq0
    clear hq0
    obtain ⟨e2, hq2⟩ := Prod.mk.inj hq1
    clear hq1
    subst e0
    subst e1
    subst e2
    subst hq2
    exact k_retZ hx hb hr hlocks (Or.inl rfl) hP hD hS dX3_readSign_54
  · have h := (if_pos cc_4).symm.trans h
    refine lv_aload_n hx hb dX3_readSign_17 rfl (lv_at hl 0 rfl) ?_
    refine va_get (D := D) (ci := 3) (v := .ref qx_codes) (C := RX3) (T := TX3) (N := 9) hx hb hu k_iX3 hown hK hP 0 rfl rfl 0 (by decide) (hu _ u_253) (fun _ h9 => h9) rfl dX3_readSign_18 ?_
    refine lv_aload_n hx hb dX3_readSign_21 rfl (lv_at hl 0 rfl) ?_
    refine va_get (D := D) (ci := 3) (v := .int o_1) (C := RX3) (T := TX3) (N := 9) hx hb hu k_iX3 hown hK hP 0 rfl rfl 3 (by decide) (hu _ u_258) (fun _ h9 => h9) rfl dX3_readSign_22 ?_
    obtain ⟨hin_5, h⟩ := ob_if h
    have hin_5 := inb_in hin_5
    refine va_iald (D := D) hx hb hK hP 1 0 rfl rfl hin_5 dX3_readSign_25 ?_
    refine lv_iload_n hx hb dX3_readSign_26 rfl (lv_at hl 1 rfl) ?_
    refine lv_icmp_lt (tgt := 45) hx hb dX3_readSign_27 (by decide) (fun cc_6 => ?_) (fun cc_6 => ?_)
    · have h := (if_pos cc_6).symm.trans h
      refine lv_aload_n hx hb dX3_readSign_45 rfl (lv_at hl 0 rfl) ?_
      refine lv_aload_n hx hb dX3_readSign_46 rfl (lv_at hl 0 rfl) ?_
      refine va_get (D := D) (ci := 3) (v := .int o_1) (C := RX3) (T := TX3) (N := 9) hx hb hu k_iX3 hown hK hP 0 rfl rfl 3 (by decide) (hu _ u_258) (fun _ h9 => h9) rfl dX3_readSign_47 ?_
      refine va_put (D := D) (ci := 3) (v := .int o_1) (ty := .int) (C := RX3) (T := TX3) (N := 9) hx hb hu k_iX3 tyX3 tyX3_ok nmX3 hown hK hP hD hS 0 rfl rfl 2 (by decide) (hu _ u_256) (fun _ h9 => h9) rfl (by decide +kernel) rfl rfl (Nat.le_of_ble_eq_true rfl) dX3_readSign_50 (fun H locs hP hD hS => ?_)
      have hP : va_P D vwCl [(qx, .inr (3, [.ref qx_codes, .int x_size, .int o_1, .int o_1, .int o_2, .int x_kind, .int x_first, .int x_second, .int x_digit])), (qx_codes, .inl (cI, 80, .inl x_codes))] H := hP
      have hD : va_D A [(qx, .inr (3, [.ref qx_codes, .int x_size, .int o_1, .int o_1, .int o_2, .int x_kind, .int x_first, .int x_second, .int x_digit])), (qx_codes, .inl (cI, 80, .inl x_codes))] := hD
      refine lv_iconst (v := (0 : Int32)) hx hb dX3_readSign_53 (by decide) ?_
      have hq := Option.some.inj h
      clear h
      obtain ⟨e0, hq0⟩ := Prod.mk.inj hq
      clear hq
      obtain ⟨e1, hq1⟩ := Prod.mk.inj hq0
      clear hq0
      obtain ⟨e2, hq2⟩ := Prod.mk.inj hq1
      clear hq1
      subst e0
      subst e1
      subst e2
      subst hq2
      exact k_retZ hx hb hr hlocks (Or.inl rfl) hP hD hS dX3_readSign_54
    · have h := (if_neg cc_6).symm.trans h
      refine lv_aload_n hx hb dX3_readSign_30 rfl (lv_at hl 0 rfl) ?_
      refine va_get (D := D) (ci := 3) (v := .ref qx_codes) (C := RX3) (T := TX3) (N := 9) hx hb hu k_iX3 hown hK hP 0 rfl rfl 0 (by decide) (hu _ u_253) (fun _ h9 => h9) rfl dX3_readSign_31 ?_
      refine lv_aload_n hx hb dX3_readSign_34 rfl (lv_at hl 0 rfl) ?_
      refine va_get (D := D) (ci := 3) (v := .int o_1) (C := RX3) (T := TX3) (N := 9) hx hb hu k_iX3 hown hK hP 0 rfl rfl 3 (by decide) (hu _ u_258) (fun _ h9 => h9) rfl dX3_readSign_35 ?_
      refine va_iald (D := D) hx hb hK hP 1 0 rfl rfl hin_5 dX3_readSign_38 ?_
      refine lv_iload_n hx hb dX3_readSign_39 rfl (lv_at hl 2 rfl) ?_
      refine lv_icmp_gt (tgt := 45) hx hb dX3_readSign_40 (by decide) (fun cc_7 => ?_) (fun cc_7 => ?_)
      · have h := (if_pos cc_7).symm.trans h
        refine lv_aload_n hx hb dX3_readSign_45 rfl (lv_at hl 0 rfl) ?_
        refine lv_aload_n hx hb dX3_readSign_46 rfl (lv_at hl 0 rfl) ?_
        refine va_get (D := D) (ci := 3) (v := .int o_1) (C := RX3) (T := TX3) (N := 9) hx hb hu k_iX3 hown hK hP 0 rfl rfl 3 (by decide) (hu _ u_258) (fun _ h9 => h9) rfl dX3_readSign_47 ?_
        refine va_put (D := D) (ci := 3) (v := .int o_1) (ty := .int) (C := RX3) (T := TX3) (N := 9) hx hb hu k_iX3 tyX3 tyX3_ok nmX3 hown hK hP hD hS 0 rfl rfl 2 (by decide) (hu _ u_256) (fun _ h9 => h9) rfl (by decide +kernel) rfl rfl (Nat.le_of_ble_eq_true rfl) dX3_readSign_50 (fun H locs hP hD hS => ?_)
        have hP : va_P D vwCl [(qx, .inr (3, [.ref qx_codes, .int x_size, .int o_1, .int o_1, .int o_2, .int x_kind, .int x_first, .int x_second, .int x_digit])), (qx_codes, .inl (cI, 80, .inl x_codes))] H := hP
        have hD : va_D A [(qx, .inr (3, [.ref qx_codes, .int x_size, .int o_1, .int o_1, .int o_2, .int x_kind, .int x_first, .int x_second, .int x_digit])), (qx_codes, .inl (cI, 80, .inl x_codes))] := hD
        refine lv_iconst (v := (0 : Int32)) hx hb dX3_readSign_53 (by decide) ?_
        have hq := Option.some.inj h
        clear h
        obtain ⟨e0, hq0⟩ := Prod.mk.inj hq
        clear hq
        obtain ⟨e1, hq1⟩ := Prod.mk.inj hq0
        clear hq0
        obtain ⟨e2, hq2⟩ := Prod.mk.inj hq1
        clear hq1
        subst e0
        subst e1
        subst e2
        subst hq2
        exact k_retZ hx hb hr hlocks (Or.inl rfl) hP hD hS dX3_readSign_54
      · have h := (if_neg cc_7).symm.trans h
        refine lv_iconst (v := (1 : Int32)) hx hb dX3_readSign_43 (by decide) ?_
        have hq := Option.some.inj h
        clear h
        obtain ⟨e0, hq0⟩ := Prod.mk.inj hq
        clear hq
        obtain ⟨e1, hq1⟩ := Prod.mk.inj hq0
        clear hq0
        obtain ⟨e2, hq2⟩ := Prod.mk.inj hq1
        clear hq1
        subst e0
        subst e1
        subst e2
        subst hq2
        exact k_retZ hx hb hr hlocks (Or.inr rfl) hP hD hS dX3_readSign_44
def f_X3_readDigit (p1 : Int32) (x_codes : (Nat → Int32)) (x_size : Int32) (x_faultAt : Int32) (x_wordStart : Int32) (x_wordEnd : Int32) (x_digit : Int32) : Option (Int32 × Int32 × Int32 × Int32 × Int32) :=
  (f_X3_readSign p1 (57 : Int32) x_codes x_size x_faultAt x_wordStart x_wordEnd).bind fun ⟨r_1, o_2, o_3, o_4⟩ =>
  if r_1 = (0 : Int32) then
    some ((0 : Int32), o_2, o_3, o_4, x_digit)
  else
    if inb o_3 80 = true then
    some ((1 : Int32), o_2, o_3, o_4, ((x_codes (Int32.toNatClampNeg o_3)) - (48 : Int32)))
    else none
set_option maxHeartbeats 4000000 in
set_option maxRecDepth 100000 in
theorem c_X3_readDigit (l : Launch) (D : va_G) (cI cZ cN : ClassId) (aK aV : Nat → Nat)  (qx : Nat) (qx_codes : Nat) (x_codes : (Nat → Int32)) (x_size : Int32) (x_faultAt : Int32) (x_wordStart : Int32) (x_wordEnd : Int32) (x_kind : Int32) (x_first : Int32) (x_second : Int32) (x_digit : Int32) (p1 : Int32) (r : Int32) (z_x_faultAt : Int32) (z_x_wordStart : Int32) (z_x_wordEnd : Int32) (z_x_digit : Int32) (h : f_X3_readDigit p1 x_codes x_size x_faultAt x_wordStart x_wordEnd x_digit = some (r, z_x_faultAt, z_x_wordStart, z_x_wordEnd, z_x_digit)) : CtI l D cI cZ cN aK aV yX3_readDigit (k_W yX3_readDigit cX3_readDigit 2 (some .boolean)) { frames := 2, cells := 0, slots := 0, locals := 42 } [.ref qx, .int p1] [(qx, .inr (3, [.ref qx_codes, .int x_size, .int x_faultAt, .int x_wordStart, .int x_wordEnd, .int x_kind, .int x_first, .int x_second, .int x_digit])), (qx_codes, .inl (cI, 80, .inl x_codes))] r [(qx, .inr (3, [.ref qx_codes, .int x_size, .int z_x_faultAt, .int z_x_wordStart, .int z_x_wordEnd, .int x_kind, .int x_first, .int x_second, .int z_x_digit])), (qx_codes, .inl (cI, 80, .inl x_codes))] := by
  refine k_startI (by decide) (Nat.le_of_ble_eq_true rfl) ?_
  intro p e s m below meth c A ls hx hb hr hml hown hts hlocks hT hZ hA hP hD hS hl
  have hK := hT.1
  have hu : ∀ w ∈ k_U, w.before ([.ref qx, .int p1] : List Value).toArray s = true := fun w h => hts w (List.mem_cons_of_mem _ h)
  have hown : s.vm.findClass RX3 = some m.cls := hown
  have hl : lv_has ls 2 [(0, .ref qx), (1, .int p1)] := hl
  unfold f_X3_readDigit at h
  refine lv_aload_n hx hb dX3_readDigit_0 rfl (lv_at hl 0 rfl) ?_
  refine lv_iload_n hx hb dX3_readDigit_1 rfl (lv_at hl 1 rfl) ?_
  refine lv_bipush (v := (57 : Int32)) hx hb dX3_readDigit_2 (by decide) ?_
  obtain ⟨⟨r_1, o_2, o_3, o_4⟩, hc_5, h⟩ := ob_bind h
  dsimp only at h
  refine k_callVI (qb := 0) [0, 1] [0] [0] [(qx, .inr (3, [.ref qx_codes, .int x_size, .int o_2, .int o_3, .int o_4, .int x_kind, .int x_first, .int x_second, .int x_digit]))] (As := [.int p1, .int (57 : Int32)]) (rest := []) ⟨hx, hb, hml, hown, hts⟩ hT hZ hA hP hD hS (c_X3_readSign l D cI cZ cN aK aV qx qx_codes x_codes x_size x_faultAt x_wordStart x_wordEnd x_kind x_first x_second x_digit p1 (57 : Int32) r_1 o_2 o_3 o_4 hc_5) ⟨callB_of 2 hts (k_good u_679) rfl rfl rfl (hu _ u_50) (hu _ u_676) (by decide +kernel) ⟨Nat.le_of_ble_eq_true rfl, Nat.le_of_ble_eq_true rfl⟩, hu _ u_678, hu _ u_15⟩ rfl rfl rfl (by decide) (by decide) (by decide) rfl rfl rfl rfl hl.1 rfl (Nat.le_of_ble_eq_true rfl) dX3_readDigit_4 (fun H locs hP hD hS => ?_)
  have hP : va_P D vwCl [(qx, .inr (3, [.ref qx_codes, .int x_size, .int o_2, .int o_3, .int o_4, .int x_kind, .int x_first, .int x_second, .int x_digit])), (qx_codes, .inl (cI, 80, .inl x_codes))] H := hP
  have hD : va_D A [(qx, .inr (3, [.ref qx_codes, .int x_size, .int o_2, .int o_3, .int o_4, .int x_kind, .int x_first, .int x_second, .int x_digit])), (qx_codes, .inl (cI, 80, .inl x_codes))] := hD
  refine lv_if_ne (tgt := 12) hx hb dX3_readDigit_7 (by decide) (fun cc_6 => ?_) (fun cc_6 => ?_)
  · have h := (if_neg cc_6).symm.trans h
    refine lv_aload_n hx hb dX3_readDigit_12 rfl (lv_at hl 0 rfl) ?_
    refine lv_aload_n hx hb dX3_readDigit_13 rfl (lv_at hl 0 rfl) ?_
    refine va_get (D := D) (ci := 3) (v := .ref qx_codes) (C := RX3) (T := TX3) (N := 9) hx hb hu k_iX3 hown hK hP 0 rfl rfl 0 (by decide) (hu _ u_253) (fun _ h9 => h9) rfl dX3_readDigit_14 ?_
    refine lv_aload_n hx hb dX3_readDigit_17 rfl (lv_at hl 0 rfl) ?_
    refine va_get (D := D) (ci := 3) (v := .int o_3) (C := RX3) (T := TX3) (N := 9) hx hb hu k_iX3 hown hK hP 0 rfl rfl 3 (by decide) (hu _ u_258) (fun _ h9 => h9) rfl dX3_readDigit_18 ?_
    obtain ⟨hin_7, h⟩ := ob_if h
    have hin_7 := inb_in hin_7
    refine va_iald (D := D) hx hb hK hP 1 0 rfl rfl hin_7 dX3_readDigit_21 ?_
    refine lv_bipush (v := (48 : Int32)) hx hb dX3_readDigit_22 (by decide) ?_
    refine lv_isub hx hb dX3_readDigit_24 ?_
    refine va_put (D := D) (ci := 3) (v := .int ((x_codes (Int32.toNatClampNeg o_3)) - (48 : Int32))) (ty := .int) (C := RX3) (T := TX3) (N := 9) hx hb hu k_iX3 tyX3 tyX3_ok nmX3 hown hK hP hD hS 0 rfl rfl 8 (by decide) (hu _ u_263) (fun _ h9 => h9) rfl (by decide +kernel) rfl rfl (Nat.le_of_ble_eq_true rfl) dX3_readDigit_25 (fun H locs hP hD hS => ?_)
    have hP : va_P D vwCl [(qx, .inr (3, [.ref qx_codes, .int x_size, .int o_2, .int o_3, .int o_4, .int x_kind, .int x_first, .int x_second, .int ((x_codes (Int32.toNatClampNeg o_3)) - (48 : Int32))])), (qx_codes, .inl (cI, 80, .inl x_codes))] H := hP
    have hD : va_D A [(qx, .inr (3, [.ref qx_codes, .int x_size, .int o_2, .int o_3, .int o_4, .int x_kind, .int x_first, .int x_second, .int ((x_codes (Int32.toNatClampNeg o_3)) - (48 : Int32))])), (qx_codes, .inl (cI, 80, .inl x_codes))] := hD
    refine lv_iconst (v := (1 : Int32)) hx hb dX3_readDigit_28 (by decide) ?_
    have hq := Option.some.inj h
    clear h
    obtain ⟨e0, hq0⟩ := Prod.mk.inj hq
    clear hq
    obtain ⟨e1, hq1⟩ := Prod.mk.inj hq0
    clear hq0
    obtain ⟨e2, hq2⟩ := Prod.mk.inj hq1
    clear hq1
    obtain ⟨e3, hq3⟩ := Prod.mk.inj hq2
    clear hq2
    subst e0
    subst e1
    subst e2
    subst e3
    subst hq3
    exact k_retZ hx hb hr hlocks (Or.inr rfl) hP hD hS dX3_readDigit_29
  · have h := (if_pos cc_6).symm.trans h
    refine lv_iconst (v := (0 : Int32)) hx hb dX3_readDigit_10 (by decide) ?_
    have hq := Option.some.inj h
    clear h
    obtain ⟨e0, hq0⟩ := Prod.mk.inj hq
    clear hq
    obtain ⟨e1, hq1⟩ := Prod.mk.inj hq0
    clear hq0
    obtain ⟨e2, hq2⟩ := Prod.mk.inj hq1
    clear hq1
    obtain ⟨e3, hq3⟩ := Prod.mk.inj hq2
    clear hq2
    subst e0
    subst e1
    subst e2
    subst e3
    subst hq3
    exact k_retZ hx hb hr hlocks (Or.inl rfl) hP hD hS dX3_readDigit_11
def f_X3_readNames (x_codes : (Nat → Int32)) (x_size : Int32) (x_faultAt : Int32) (x_wordStart : Int32) (x_wordEnd : Int32) (x_first : Int32) (x_second : Int32) : Option (Int32 × Int32 × Int32 × Int32 × Int32 × Int32) :=
  (f_X3_readSign (97 : Int32) (105 : Int32) x_codes x_size x_faultAt x_wordStart x_wordEnd).bind fun ⟨r_1, o_2, o_3, o_4⟩ =>
  if r_1 = (0 : Int32) then
    some ((0 : Int32), o_2, o_3, o_4, x_first, x_second)
  else
    if inb o_3 80 = true then
    (f_X3_readSign (97 : Int32) (105 : Int32) x_codes x_size o_2 o_3 o_4).bind fun ⟨r_8, o_9, o_10, o_11⟩ =>
    if r_8 = (0 : Int32) then
      some ((0 : Int32), o_9, o_10, o_11, ((x_codes (Int32.toNatClampNeg o_3)) - (97 : Int32)), x_second)
    else
      if inb o_10 80 = true then
      some ((1 : Int32), o_9, o_10, o_11, ((x_codes (Int32.toNatClampNeg o_3)) - (97 : Int32)), ((x_codes (Int32.toNatClampNeg o_10)) - (97 : Int32)))
      else none
    else none
set_option maxHeartbeats 4000000 in
set_option maxRecDepth 100000 in
theorem c_X3_readNames (l : Launch) (D : va_G) (cI cZ cN : ClassId) (aK aV : Nat → Nat)  (qx : Nat) (qx_codes : Nat) (x_codes : (Nat → Int32)) (x_size : Int32) (x_faultAt : Int32) (x_wordStart : Int32) (x_wordEnd : Int32) (x_kind : Int32) (x_first : Int32) (x_second : Int32) (x_digit : Int32) (r : Int32) (z_x_faultAt : Int32) (z_x_wordStart : Int32) (z_x_wordEnd : Int32) (z_x_first : Int32) (z_x_second : Int32) (h : f_X3_readNames x_codes x_size x_faultAt x_wordStart x_wordEnd x_first x_second = some (r, z_x_faultAt, z_x_wordStart, z_x_wordEnd, z_x_first, z_x_second)) : CtI l D cI cZ cN aK aV yX3_readNames (k_W yX3_readNames cX3_readNames 1 (some .boolean)) { frames := 2, cells := 0, slots := 0, locals := 42 } [.ref qx] [(qx, .inr (3, [.ref qx_codes, .int x_size, .int x_faultAt, .int x_wordStart, .int x_wordEnd, .int x_kind, .int x_first, .int x_second, .int x_digit])), (qx_codes, .inl (cI, 80, .inl x_codes))] r [(qx, .inr (3, [.ref qx_codes, .int x_size, .int z_x_faultAt, .int z_x_wordStart, .int z_x_wordEnd, .int x_kind, .int z_x_first, .int z_x_second, .int x_digit])), (qx_codes, .inl (cI, 80, .inl x_codes))] := by
  refine k_startI (by decide) (Nat.le_of_ble_eq_true rfl) ?_
  intro p e s m below meth c A ls hx hb hr hml hown hts hlocks hT hZ hA hP hD hS hl
  have hK := hT.1
  have hu : ∀ w ∈ k_U, w.before ([.ref qx] : List Value).toArray s = true := fun w h => hts w (List.mem_cons_of_mem _ h)
  have hown : s.vm.findClass RX3 = some m.cls := hown
  have hl : lv_has ls 1 [(0, .ref qx)] := hl
  unfold f_X3_readNames at h
  refine lv_aload_n hx hb dX3_readNames_0 rfl (lv_at hl 0 rfl) ?_
  refine lv_bipush (v := (97 : Int32)) hx hb dX3_readNames_1 (by decide) ?_
  refine lv_bipush (v := (105 : Int32)) hx hb dX3_readNames_3 (by decide) ?_
  obtain ⟨⟨r_1, o_2, o_3, o_4⟩, hc_5, h⟩ := ob_bind h
  dsimp only at h
  refine k_callVI (qb := 0) [0, 1] [0] [0] [(qx, .inr (3, [.ref qx_codes, .int x_size, .int o_2, .int o_3, .int o_4, .int x_kind, .int x_first, .int x_second, .int x_digit]))] (As := [.int (97 : Int32), .int (105 : Int32)]) (rest := []) ⟨hx, hb, hml, hown, hts⟩ hT hZ hA hP hD hS (c_X3_readSign l D cI cZ cN aK aV qx qx_codes x_codes x_size x_faultAt x_wordStart x_wordEnd x_kind x_first x_second x_digit (97 : Int32) (105 : Int32) r_1 o_2 o_3 o_4 hc_5) ⟨callB_of 2 hts (k_good u_679) rfl rfl rfl (hu _ u_50) (hu _ u_676) (by decide +kernel) ⟨Nat.le_of_ble_eq_true rfl, Nat.le_of_ble_eq_true rfl⟩, hu _ u_678, hu _ u_15⟩ rfl rfl rfl (by decide) (by decide) (by decide) rfl rfl rfl rfl hl.1 rfl (Nat.le_of_ble_eq_true rfl) dX3_readNames_5 (fun H locs hP hD hS => ?_)
  have hP : va_P D vwCl [(qx, .inr (3, [.ref qx_codes, .int x_size, .int o_2, .int o_3, .int o_4, .int x_kind, .int x_first, .int x_second, .int x_digit])), (qx_codes, .inl (cI, 80, .inl x_codes))] H := hP
  have hD : va_D A [(qx, .inr (3, [.ref qx_codes, .int x_size, .int o_2, .int o_3, .int o_4, .int x_kind, .int x_first, .int x_second, .int x_digit])), (qx_codes, .inl (cI, 80, .inl x_codes))] := hD
  refine lv_if_ne (tgt := 13) hx hb dX3_readNames_8 (by decide) (fun cc_6 => ?_) (fun cc_6 => ?_)
  · have h := (if_neg cc_6).symm.trans h
    refine lv_aload_n hx hb dX3_readNames_13 rfl (lv_at hl 0 rfl) ?_
    refine lv_aload_n hx hb dX3_readNames_14 rfl (lv_at hl 0 rfl) ?_
    refine va_get (D := D) (ci := 3) (v := .ref qx_codes) (C := RX3) (T := TX3) (N := 9) hx hb hu k_iX3 hown hK hP 0 rfl rfl 0 (by decide) (hu _ u_253) (fun _ h9 => h9) rfl dX3_readNames_15 ?_
    refine lv_aload_n hx hb dX3_readNames_18 rfl (lv_at hl 0 rfl) ?_
    refine va_get (D := D) (ci := 3) (v := .int o_3) (C := RX3) (T := TX3) (N := 9) hx hb hu k_iX3 hown hK hP 0 rfl rfl 3 (by decide) (hu _ u_258) (fun _ h9 => h9) rfl dX3_readNames_19 ?_
    obtain ⟨hin_7, h⟩ := ob_if h
    have hin_7 := inb_in hin_7
    refine va_iald (D := D) hx hb hK hP 1 0 rfl rfl hin_7 dX3_readNames_22 ?_
    refine lv_bipush (v := (97 : Int32)) hx hb dX3_readNames_23 (by decide) ?_
    refine lv_isub hx hb dX3_readNames_25 ?_
    refine va_put (D := D) (ci := 3) (v := .int ((x_codes (Int32.toNatClampNeg o_3)) - (97 : Int32))) (ty := .int) (C := RX3) (T := TX3) (N := 9) hx hb hu k_iX3 tyX3 tyX3_ok nmX3 hown hK hP hD hS 0 rfl rfl 6 (by decide) (hu _ u_261) (fun _ h9 => h9) rfl (by decide +kernel) rfl rfl (Nat.le_of_ble_eq_true rfl) dX3_readNames_26 (fun H locs hP hD hS => ?_)
    have hP : va_P D vwCl [(qx, .inr (3, [.ref qx_codes, .int x_size, .int o_2, .int o_3, .int o_4, .int x_kind, .int ((x_codes (Int32.toNatClampNeg o_3)) - (97 : Int32)), .int x_second, .int x_digit])), (qx_codes, .inl (cI, 80, .inl x_codes))] H := hP
    have hD : va_D A [(qx, .inr (3, [.ref qx_codes, .int x_size, .int o_2, .int o_3, .int o_4, .int x_kind, .int ((x_codes (Int32.toNatClampNeg o_3)) - (97 : Int32)), .int x_second, .int x_digit])), (qx_codes, .inl (cI, 80, .inl x_codes))] := hD
    refine lv_aload_n hx hb dX3_readNames_29 rfl (lv_at hl 0 rfl) ?_
    refine lv_bipush (v := (97 : Int32)) hx hb dX3_readNames_30 (by decide) ?_
    refine lv_bipush (v := (105 : Int32)) hx hb dX3_readNames_32 (by decide) ?_
    obtain ⟨⟨r_8, o_9, o_10, o_11⟩, hc_12, h⟩ := ob_bind h
    dsimp only at h
    refine k_callVI (qb := 0) [0, 1] [0] [0] [(qx, .inr (3, [.ref qx_codes, .int x_size, .int o_9, .int o_10, .int o_11, .int x_kind, .int ((x_codes (Int32.toNatClampNeg o_3)) - (97 : Int32)), .int x_second, .int x_digit]))] (As := [.int (97 : Int32), .int (105 : Int32)]) (rest := []) ⟨hx, hb, hml, hown, hts⟩ hT hZ hA hP hD hS (c_X3_readSign l D cI cZ cN aK aV qx qx_codes x_codes x_size o_2 o_3 o_4 x_kind ((x_codes (Int32.toNatClampNeg o_3)) - (97 : Int32)) x_second x_digit (97 : Int32) (105 : Int32) r_8 o_9 o_10 o_11 hc_12) ⟨callB_of 2 hts (k_good u_679) rfl rfl rfl (hu _ u_50) (hu _ u_676) (by decide +kernel) ⟨Nat.le_of_ble_eq_true rfl, Nat.le_of_ble_eq_true rfl⟩, hu _ u_678, hu _ u_15⟩ rfl rfl rfl (by decide) (by decide) (by decide) rfl rfl rfl rfl hl.1 rfl (Nat.le_of_ble_eq_true rfl) dX3_readNames_34 (fun H locs hP hD hS => ?_)
    have hP : va_P D vwCl [(qx, .inr (3, [.ref qx_codes, .int x_size, .int o_9, .int o_10, .int o_11, .int x_kind, .int ((x_codes (Int32.toNatClampNeg o_3)) - (97 : Int32)), .int x_second, .int x_digit])), (qx_codes, .inl (cI, 80, .inl x_codes))] H := hP
    have hD : va_D A [(qx, .inr (3, [.ref qx_codes, .int x_size, .int o_9, .int o_10, .int o_11, .int x_kind, .int ((x_codes (Int32.toNatClampNeg o_3)) - (97 : Int32)), .int x_second, .int x_digit])), (qx_codes, .inl (cI, 80, .inl x_codes))] := hD
    refine lv_if_ne (tgt := 42) hx hb dX3_readNames_37 (by decide) (fun cc_13 => ?_) (fun cc_13 => ?_)
    · have h := (if_neg cc_13).symm.trans h
      refine lv_aload_n hx hb dX3_readNames_42 rfl (lv_at hl 0 rfl) ?_
      refine lv_aload_n hx hb dX3_readNames_43 rfl (lv_at hl 0 rfl) ?_
      refine va_get (D := D) (ci := 3) (v := .ref qx_codes) (C := RX3) (T := TX3) (N := 9) hx hb hu k_iX3 hown hK hP 0 rfl rfl 0 (by decide) (hu _ u_253) (fun _ h9 => h9) rfl dX3_readNames_44 ?_
      refine lv_aload_n hx hb dX3_readNames_47 rfl (lv_at hl 0 rfl) ?_
      refine va_get (D := D) (ci := 3) (v := .int o_10) (C := RX3) (T := TX3) (N := 9) hx hb hu k_iX3 hown hK hP 0 rfl rfl 3 (by decide) (hu _ u_258) (fun _ h9 => h9) rfl dX3_readNames_48 ?_
      obtain ⟨hin_14, h⟩ := ob_if h
      have hin_14 := inb_in hin_14
      refine va_iald (D := D) hx hb hK hP 1 0 rfl rfl hin_14 dX3_readNames_51 ?_
      refine lv_bipush (v := (97 : Int32)) hx hb dX3_readNames_52 (by decide) ?_
      refine lv_isub hx hb dX3_readNames_54 ?_
      refine va_put (D := D) (ci := 3) (v := .int ((x_codes (Int32.toNatClampNeg o_10)) - (97 : Int32))) (ty := .int) (C := RX3) (T := TX3) (N := 9) hx hb hu k_iX3 tyX3 tyX3_ok nmX3 hown hK hP hD hS 0 rfl rfl 7 (by decide) (hu _ u_262) (fun _ h9 => h9) rfl (by decide +kernel) rfl rfl (Nat.le_of_ble_eq_true rfl) dX3_readNames_55 (fun H locs hP hD hS => ?_)
      have hP : va_P D vwCl [(qx, .inr (3, [.ref qx_codes, .int x_size, .int o_9, .int o_10, .int o_11, .int x_kind, .int ((x_codes (Int32.toNatClampNeg o_3)) - (97 : Int32)), .int ((x_codes (Int32.toNatClampNeg o_10)) - (97 : Int32)), .int x_digit])), (qx_codes, .inl (cI, 80, .inl x_codes))] H := hP
      have hD : va_D A [(qx, .inr (3, [.ref qx_codes, .int x_size, .int o_9, .int o_10, .int o_11, .int x_kind, .int ((x_codes (Int32.toNatClampNeg o_3)) - (97 : Int32)), .int ((x_codes (Int32.toNatClampNeg o_10)) - (97 : Int32)), .int x_digit])), (qx_codes, .inl (cI, 80, .inl x_codes))] := hD
      refine lv_iconst (v := (1 : Int32)) hx hb dX3_readNames_58 (by decide) ?_
      have hq := Option.some.inj h
      clear h
      obtain ⟨e0, hq0⟩ := Prod.mk.inj hq
      clear hq
      obtain ⟨e1, hq1⟩ := Prod.mk.inj hq0
      clear hq0
      obtain ⟨e2, hq2⟩ := Prod.mk.inj hq1
      clear hq1
      obtain ⟨e3, hq3⟩ := Prod.mk.inj hq2
      clear hq2
      obtain ⟨e4, hq4⟩ := Prod.mk.inj hq3
      clear hq3
      subst e0
      subst e1
      subst e2
      subst e3
      subst e4
      subst hq4
      exact k_retZ hx hb hr hlocks (Or.inr rfl) hP hD hS dX3_readNames_59
    · have h := (if_pos cc_13).symm.trans h
      refine lv_iconst (v := (0 : Int32)) hx hb dX3_readNames_40 (by decide) ?_
      have hq := Option.some.inj h
      clear h
      obtain ⟨e0, hq0⟩ := Prod.mk.inj hq
      clear hq
      obtain ⟨e1, hq1⟩ := Prod.mk.inj hq0
      clear hq0
      obtain ⟨e2, hq2⟩ := Prod.mk.inj hq1
      clear hq1
      obtain ⟨e3, hq3⟩ := Prod.mk.inj hq2
      clear hq2
      obtain ⟨e4, hq4⟩ := Prod.mk.inj hq3
      clear hq3
      subst e0
      subst e1
      subst e2
      subst e3
      subst e4
      subst hq4
      exact k_retZ hx hb hr hlocks (Or.inl rfl) hP hD hS dX3_readNames_41
  · have h := (if_pos cc_6).symm.trans h
    refine lv_iconst (v := (0 : Int32)) hx hb dX3_readNames_11 (by decide) ?_
    have hq := Option.some.inj h
    clear h
    obtain ⟨e0, hq0⟩ := Prod.mk.inj hq
    clear hq
    obtain ⟨e1, hq1⟩ := Prod.mk.inj hq0
    clear hq0
    obtain ⟨e2, hq2⟩ := Prod.mk.inj hq1
    clear hq1
    obtain ⟨e3, hq3⟩ := Prod.mk.inj hq2
    clear hq2
    obtain ⟨e4, hq4⟩ := Prod.mk.inj hq3
    clear hq3
    subst e0
    subst e1
    subst e2
    subst e3
    subst e4
    subst hq4
    exact k_retZ hx hb hr hlocks (Or.inl rfl) hP hD hS dX3_readNames_12
def f_X3_readCommand (x_codes : (Nat → Int32)) (x_size : Int32) (x_faultAt : Int32) (x_wordStart : Int32) (x_wordEnd : Int32) (x_kind : Int32) (x_first : Int32) (x_second : Int32) (x_digit : Int32) : Option (Int32 × Int32 × Int32 × Int32 × Int32 × Int32 × Int32 × Int32) :=
  (f_X3_takeWord x_codes x_size x_wordStart x_wordEnd).bind fun ⟨o_1, o_2⟩ =>
  if o_1 = o_2 then
    some ((0 : Int32), x_faultAt, o_1, o_2, x_kind, x_first, x_second, x_digit)
  else
    (f_X3_kindOfWord x_codes o_1 o_2).bind fun r_5 =>
    if r_5 = (0 : Int32) then
      (f_X3_readNames x_codes x_size x_faultAt o_1 o_2 x_first x_second).bind fun ⟨r_7, o_8, o_9, o_10, o_11, o_12⟩ =>
      if r_7 = (0 : Int32) then
        some ((0 : Int32), o_8, o_9, o_10, r_5, o_11, o_12, x_digit)
      else
        (f_X3_readDigit (49 : Int32) x_codes x_size o_8 o_9 o_10 x_digit).bind fun ⟨r_15, o_16, o_17, o_18, o_19⟩ =>
        if r_15 = (0 : Int32) then
          some ((0 : Int32), o_16, o_17, o_18, r_5, o_11, o_12, o_19)
        else
          some ((1 : Int32), o_16, o_17, o_18, r_5, o_11, o_12, o_19)
    else
    if r_5 = (4 : Int32) then
      (f_X3_readDigit (50 : Int32) x_codes x_size x_faultAt o_1 o_2 x_digit).bind fun ⟨r_22, o_23, o_24, o_25, o_26⟩ =>
      if isb r_22 = true then
      some (r_22, o_23, o_24, o_25, r_5, x_first, x_second, o_26)
      else none
    else
    if r_5 = (5 : Int32) then
      some ((0 : Int32), o_1, o_1, o_2, r_5, x_first, x_second, x_digit)
    else
    (f_X3_readNames x_codes x_size x_faultAt o_1 o_2 x_first x_second).bind fun ⟨r_28, o_29, o_30, o_31, o_32, o_33⟩ =>
    if isb r_28 = true then
    some (r_28, o_29, o_30, o_31, r_5, o_32, o_33, x_digit)
    else none
set_option maxHeartbeats 4000000 in
set_option maxRecDepth 100000 in
theorem c_X3_readCommand (l : Launch) (D : va_G) (cI cZ cN : ClassId) (aK aV : Nat → Nat)  (qx : Nat) (qx_codes : Nat) (x_codes : (Nat → Int32)) (x_size : Int32) (x_faultAt : Int32) (x_wordStart : Int32) (x_wordEnd : Int32) (x_kind : Int32) (x_first : Int32) (x_second : Int32) (x_digit : Int32) (r : Int32) (z_x_faultAt : Int32) (z_x_wordStart : Int32) (z_x_wordEnd : Int32) (z_x_kind : Int32) (z_x_first : Int32) (z_x_second : Int32) (z_x_digit : Int32) (h : f_X3_readCommand x_codes x_size x_faultAt x_wordStart x_wordEnd x_kind x_first x_second x_digit = some (r, z_x_faultAt, z_x_wordStart, z_x_wordEnd, z_x_kind, z_x_first, z_x_second, z_x_digit)) : CtI l D cI cZ cN aK aV yX3_readCommand (k_W yX3_readCommand cX3_readCommand 1 (some .boolean)) { frames := 6, cells := 0, slots := 0, locals := 127 } [.ref qx] [(qx, .inr (3, [.ref qx_codes, .int x_size, .int x_faultAt, .int x_wordStart, .int x_wordEnd, .int x_kind, .int x_first, .int x_second, .int x_digit])), (qx_codes, .inl (cI, 80, .inl x_codes))] r [(qx, .inr (3, [.ref qx_codes, .int x_size, .int z_x_faultAt, .int z_x_wordStart, .int z_x_wordEnd, .int z_x_kind, .int z_x_first, .int z_x_second, .int z_x_digit])), (qx_codes, .inl (cI, 80, .inl x_codes))] := by
  refine k_startI (by decide) (Nat.le_of_ble_eq_true rfl) ?_
  intro p e s m below meth c A ls hx hb hr hml hown hts hlocks hT hZ hA hP hD hS hl
  have hK := hT.1
  have hu : ∀ w ∈ k_U, w.before ([.ref qx] : List Value).toArray s = true := fun w h => hts w (List.mem_cons_of_mem _ h)
  have hown : s.vm.findClass RX3 = some m.cls := hown
  have hl : lv_has ls 1 [(0, .ref qx)] := hl
  unfold f_X3_readCommand at h
  refine lv_aload_n hx hb dX3_readCommand_0 rfl (lv_at hl 0 rfl) ?_
  obtain ⟨⟨o_1, o_2⟩, hc_3, h⟩ := ob_bind h
  dsimp only at h
  refine k_callVV (qb := 0) [0, 1] [0] [0] [(qx, .inr (3, [.ref qx_codes, .int x_size, .int x_faultAt, .int o_1, .int o_2, .int x_kind, .int x_first, .int x_second, .int x_digit]))] (As := []) (rest := []) ⟨hx, hb, hml, hown, hts⟩ hT hZ hA hP hD hS (c_X3_takeWord l D cI cZ cN aK aV qx qx_codes x_codes x_size x_faultAt x_wordStart x_wordEnd x_kind x_first x_second x_digit o_1 o_2 hc_3) ⟨callB_of 0 hts (k_good u_610) rfl rfl rfl (hu _ u_50) (hu _ u_607) (by decide +kernel) ⟨Nat.le_of_ble_eq_true rfl, Nat.le_of_ble_eq_true rfl⟩, hu _ u_609, hu _ u_11⟩ rfl rfl rfl (by decide) (by decide) (by decide) rfl rfl rfl rfl hl.1 rfl (Nat.le_of_ble_eq_true rfl) dX3_readCommand_1 (fun H locs hP hD hS => ?_)
  have hP : va_P D vwCl [(qx, .inr (3, [.ref qx_codes, .int x_size, .int x_faultAt, .int o_1, .int o_2, .int x_kind, .int x_first, .int x_second, .int x_digit])), (qx_codes, .inl (cI, 80, .inl x_codes))] H := hP
  have hD : va_D A [(qx, .inr (3, [.ref qx_codes, .int x_size, .int x_faultAt, .int o_1, .int o_2, .int x_kind, .int x_first, .int x_second, .int x_digit])), (qx_codes, .inl (cI, 80, .inl x_codes))] := hD
  refine lv_aload_n hx hb dX3_readCommand_4 rfl (lv_at hl 0 rfl) ?_
  refine va_get (D := D) (ci := 3) (v := .int o_1) (C := RX3) (T := TX3) (N := 9) hx hb hu k_iX3 hown hK hP 0 rfl rfl 3 (by decide) (hu _ u_258) (fun _ h9 => h9) rfl dX3_readCommand_5 ?_
  refine lv_aload_n hx hb dX3_readCommand_8 rfl (lv_at hl 0 rfl) ?_
  refine va_get (D := D) (ci := 3) (v := .int o_2) (C := RX3) (T := TX3) (N := 9) hx hb hu k_iX3 hown hK hP 0 rfl rfl 4 (by decide) (hu _ u_259) (fun _ h9 => h9) rfl dX3_readCommand_9 ?_
  refine lv_icmp_ne (tgt := 17) hx hb dX3_readCommand_12 (by decide) (fun cc_4 => ?_) (fun cc_4 => ?_)
  · have h := (if_neg cc_4).symm.trans h
    refine lv_aload_n hx hb dX3_readCommand_17 rfl (lv_at hl 0 rfl) ?_
    refine lv_aload_n hx hb dX3_readCommand_18 rfl (lv_at hl 0 rfl) ?_
    obtain ⟨r_5, hc_6, h⟩ := ob_bind h
    refine k_callVIr (qb := 0) [0, 1] (As := []) (rest := [.ref qx]) ⟨hx, hb, hml, hown, hts⟩ hT hZ hA hP hD hS (c_X3_kindOfWord l D cI cZ cN aK aV qx qx_codes x_codes x_size x_faultAt o_1 o_2 x_kind x_first x_second x_digit r_5 hc_6) ⟨callB_of 0 hts (k_good u_614) rfl rfl rfl (hu _ u_50) (hu _ u_611) (by decide +kernel) ⟨Nat.le_of_ble_eq_true rfl, Nat.le_of_ble_eq_true rfl⟩, hu _ u_613, hu _ u_12⟩ rfl rfl rfl (by decide) rfl hl.1 rfl (Nat.le_of_ble_eq_true rfl) dX3_readCommand_19 (fun H locs hP hD hS => ?_)
    refine va_put (D := D) (ci := 3) (v := .int r_5) (ty := .int) (C := RX3) (T := TX3) (N := 9) hx hb hu k_iX3 tyX3 tyX3_ok nmX3 hown hK hP hD hS 0 rfl rfl 5 (by decide) (hu _ u_260) (fun _ h9 => h9) rfl (by decide +kernel) rfl rfl (Nat.le_of_ble_eq_true rfl) dX3_readCommand_22 (fun H locs hP hD hS => ?_)
    have hP : va_P D vwCl [(qx, .inr (3, [.ref qx_codes, .int x_size, .int x_faultAt, .int o_1, .int o_2, .int r_5, .int x_first, .int x_second, .int x_digit])), (qx_codes, .inl (cI, 80, .inl x_codes))] H := hP
    have hD : va_D A [(qx, .inr (3, [.ref qx_codes, .int x_size, .int x_faultAt, .int o_1, .int o_2, .int r_5, .int x_first, .int x_second, .int x_digit])), (qx_codes, .inl (cI, 80, .inl x_codes))] := hD
    refine lv_aload_n hx hb dX3_readCommand_25 rfl (lv_at hl 0 rfl) ?_
    refine va_get (D := D) (ci := 3) (v := .int r_5) (C := RX3) (T := TX3) (N := 9) hx hb hu k_iX3 hown hK hP 0 rfl rfl 5 (by decide) (hu _ u_260) (fun _ h9 => h9) rfl dX3_readCommand_26 ?_
    by_cases sw_35 : r_5 = (0 : Int32)
    · have h := (if_pos sw_35).symm.trans h
      refine lv_lookup (off := 35) (tgt := 64) hx hb dX3_readCommand_29 (by decide) (by first | (rw [sw_35]; done) | (rw [sw_35]; rfl)) (by decide) ?_
      refine lv_aload_n hx hb dX3_readCommand_64 rfl (lv_at hl 0 rfl) ?_
      obtain ⟨⟨r_7, o_8, o_9, o_10, o_11, o_12⟩, hc_13, h⟩ := ob_bind h
      dsimp only at h
      refine k_callVI (qb := 0) [0, 1] [0] [0] [(qx, .inr (3, [.ref qx_codes, .int x_size, .int o_8, .int o_9, .int o_10, .int r_5, .int o_11, .int o_12, .int x_digit]))] (As := []) (rest := []) ⟨hx, hb, hml, hown, hts⟩ hT hZ hA hP hD hS (c_X3_readNames l D cI cZ cN aK aV qx qx_codes x_codes x_size x_faultAt o_1 o_2 r_5 x_first x_second x_digit r_7 o_8 o_9 o_10 o_11 o_12 hc_13) ⟨callB_of 0 hts (k_good u_675) rfl rfl rfl (hu _ u_50) (hu _ u_672) (by decide +kernel) ⟨Nat.le_of_ble_eq_true rfl, Nat.le_of_ble_eq_true rfl⟩, hu _ u_674, hu _ u_14⟩ rfl rfl rfl (by decide) (by decide) (by decide) rfl rfl rfl rfl hl.1 rfl (Nat.le_of_ble_eq_true rfl) dX3_readCommand_65 (fun H locs hP hD hS => ?_)
      have hP : va_P D vwCl [(qx, .inr (3, [.ref qx_codes, .int x_size, .int o_8, .int o_9, .int o_10, .int r_5, .int o_11, .int o_12, .int x_digit])), (qx_codes, .inl (cI, 80, .inl x_codes))] H := hP
      have hD : va_D A [(qx, .inr (3, [.ref qx_codes, .int x_size, .int o_8, .int o_9, .int o_10, .int r_5, .int o_11, .int o_12, .int x_digit])), (qx_codes, .inl (cI, 80, .inl x_codes))] := hD
      refine lv_if_eq (tgt := 84) hx hb dX3_readCommand_68 (by decide) (fun cc_14 => ?_) (fun cc_14 => ?_)
      · have h := (if_pos cc_14).symm.trans h
        refine lv_iconst (v := (0 : Int32)) hx hb dX3_readCommand_84 (by decide) ?_
        have hq := Option.some.inj h
        clear h
        obtain ⟨e0, hq0⟩ := Prod.mk.inj hq
        clear hq
        obtain ⟨e1, hq1⟩ := Prod.mk.inj hq0
        clear hq0
        obtain ⟨e2, hq2⟩ := Prod.mk.inj hq1
        clear hq1
        obtain ⟨e3, hq3⟩ := Prod.mk.inj hq2
        clear hq2
        obtain ⟨e4, hq4⟩ := Prod.mk.inj hq3
        clear hq3
        obtain ⟨e5, hq5⟩ := Prod.mk.inj hq4
        clear hq4
        obtain ⟨e6, hq6⟩ := Prod.mk.inj hq5
        clear hq5
        subst e0
        subst e1
        subst e2
        subst e3
        subst e4
        subst e5
        subst e6
        subst hq6
        exact k_retZ hx hb hr hlocks (Or.inl rfl) hP hD hS dX3_readCommand_85
      · have h := (if_neg cc_14).symm.trans h
        refine lv_aload_n hx hb dX3_readCommand_71 rfl (lv_at hl 0 rfl) ?_
        refine lv_bipush (v := (49 : Int32)) hx hb dX3_readCommand_72 (by decide) ?_
        obtain ⟨⟨r_15, o_16, o_17, o_18, o_19⟩, hc_20, h⟩ := ob_bind h
        dsimp only at h
        refine k_callVI (qb := 0) [0, 1] [0] [0] [(qx, .inr (3, [.ref qx_codes, .int x_size, .int o_16, .int o_17, .int o_18, .int r_5, .int o_11, .int o_12, .int o_19]))] (As := [.int (49 : Int32)]) (rest := []) ⟨hx, hb, hml, hown, hts⟩ hT hZ hA hP hD hS (c_X3_readDigit l D cI cZ cN aK aV qx qx_codes x_codes x_size o_8 o_9 o_10 r_5 o_11 o_12 x_digit (49 : Int32) r_15 o_16 o_17 o_18 o_19 hc_20) ⟨callB_of 1 hts (k_good u_683) rfl rfl rfl (hu _ u_50) (hu _ u_680) (by decide +kernel) ⟨Nat.le_of_ble_eq_true rfl, Nat.le_of_ble_eq_true rfl⟩, hu _ u_682, hu _ u_16⟩ rfl rfl rfl (by decide) (by decide) (by decide) rfl rfl rfl rfl hl.1 rfl (Nat.le_of_ble_eq_true rfl) dX3_readCommand_74 (fun H locs hP hD hS => ?_)
        have hP : va_P D vwCl [(qx, .inr (3, [.ref qx_codes, .int x_size, .int o_16, .int o_17, .int o_18, .int r_5, .int o_11, .int o_12, .int o_19])), (qx_codes, .inl (cI, 80, .inl x_codes))] H := hP
        have hD : va_D A [(qx, .inr (3, [.ref qx_codes, .int x_size, .int o_16, .int o_17, .int o_18, .int r_5, .int o_11, .int o_12, .int o_19])), (qx_codes, .inl (cI, 80, .inl x_codes))] := hD
        refine lv_if_eq (tgt := 84) hx hb dX3_readCommand_77 (by decide) (fun cc_21 => ?_) (fun cc_21 => ?_)
        · have h := (if_pos cc_21).symm.trans h
          refine lv_iconst (v := (0 : Int32)) hx hb dX3_readCommand_84 (by decide) ?_
          have hq := Option.some.inj h
          clear h
          obtain ⟨e0, hq0⟩ := Prod.mk.inj hq
          clear hq
          obtain ⟨e1, hq1⟩ := Prod.mk.inj hq0
          clear hq0
          obtain ⟨e2, hq2⟩ := Prod.mk.inj hq1
          clear hq1
          obtain ⟨e3, hq3⟩ := Prod.mk.inj hq2
          clear hq2
          obtain ⟨e4, hq4⟩ := Prod.mk.inj hq3
          clear hq3
          obtain ⟨e5, hq5⟩ := Prod.mk.inj hq4
          clear hq4
          obtain ⟨e6, hq6⟩ := Prod.mk.inj hq5
          clear hq5
          subst e0
          subst e1
          subst e2
          subst e3
          subst e4
          subst e5
          subst e6
          subst hq6
          exact k_retZ hx hb hr hlocks (Or.inl rfl) hP hD hS dX3_readCommand_85
        · have h := (if_neg cc_21).symm.trans h
          refine lv_iconst (v := (1 : Int32)) hx hb dX3_readCommand_80 (by decide) ?_
          refine lv_goto (tgt := 85) hx hb dX3_readCommand_81 (by decide) ?_
          have hq := Option.some.inj h
          clear h
          obtain ⟨e0, hq0⟩ := Prod.mk.inj hq
          clear hq
          obtain ⟨e1, hq1⟩ := Prod.mk.inj hq0
          clear hq0
          obtain ⟨e2, hq2⟩ := Prod.mk.inj hq1
          clear hq1
          obtain ⟨e3, hq3⟩ := Prod.mk.inj hq2
          clear hq2
          obtain ⟨e4, hq4⟩ := Prod.mk.inj hq3
          clear hq3
          obtain ⟨e5, hq5⟩ := Prod.mk.inj hq4
          clear hq4
          obtain ⟨e6, hq6⟩ := Prod.mk.inj hq5
          clear hq5
          subst e0
          subst e1
          subst e2
          subst e3
          subst e4
          subst e5
          subst e6
          subst hq6
          exact k_retZ hx hb hr hlocks (Or.inr rfl) hP hD hS dX3_readCommand_85
    have h := (if_neg sw_35).symm.trans h
    by_cases sw_36 : r_5 = (4 : Int32)
    · have h := (if_pos sw_36).symm.trans h
      refine lv_lookup (off := 57) (tgt := 86) hx hb dX3_readCommand_29 (by decide) (by first | (rw [sw_36]; done) | (rw [sw_36]; rfl)) (by decide) ?_
      refine lv_aload_n hx hb dX3_readCommand_86 rfl (lv_at hl 0 rfl) ?_
      refine lv_bipush (v := (50 : Int32)) hx hb dX3_readCommand_87 (by decide) ?_
      obtain ⟨⟨r_22, o_23, o_24, o_25, o_26⟩, hc_27, h⟩ := ob_bind h
      dsimp only at h
      refine k_callVI (qb := 0) [0, 1] [0] [0] [(qx, .inr (3, [.ref qx_codes, .int x_size, .int o_23, .int o_24, .int o_25, .int r_5, .int x_first, .int x_second, .int o_26]))] (As := [.int (50 : Int32)]) (rest := []) ⟨hx, hb, hml, hown, hts⟩ hT hZ hA hP hD hS (c_X3_readDigit l D cI cZ cN aK aV qx qx_codes x_codes x_size x_faultAt o_1 o_2 r_5 x_first x_second x_digit (50 : Int32) r_22 o_23 o_24 o_25 o_26 hc_27) ⟨callB_of 1 hts (k_good u_683) rfl rfl rfl (hu _ u_50) (hu _ u_680) (by decide +kernel) ⟨Nat.le_of_ble_eq_true rfl, Nat.le_of_ble_eq_true rfl⟩, hu _ u_682, hu _ u_16⟩ rfl rfl rfl (by decide) (by decide) (by decide) rfl rfl rfl rfl hl.1 rfl (Nat.le_of_ble_eq_true rfl) dX3_readCommand_89 (fun H locs hP hD hS => ?_)
      have hP : va_P D vwCl [(qx, .inr (3, [.ref qx_codes, .int x_size, .int o_23, .int o_24, .int o_25, .int r_5, .int x_first, .int x_second, .int o_26])), (qx_codes, .inl (cI, 80, .inl x_codes))] H := hP
      have hD : va_D A [(qx, .inr (3, [.ref qx_codes, .int x_size, .int o_23, .int o_24, .int o_25, .int r_5, .int x_first, .int x_second, .int o_26])), (qx_codes, .inl (cI, 80, .inl x_codes))] := hD
      obtain ⟨hbz, h⟩ := ob_if h
      have hq := Option.some.inj h
      clear h
      obtain ⟨e0, hq0⟩ := Prod.mk.inj hq
      clear hq
      obtain ⟨e1, hq1⟩ := Prod.mk.inj hq0
      clear hq0
      obtain ⟨e2, hq2⟩ := Prod.mk.inj hq1
      clear hq1
      obtain ⟨e3, hq3⟩ := Prod.mk.inj hq2
      clear hq2
      obtain ⟨e4, hq4⟩ := Prod.mk.inj hq3
      clear hq3
      obtain ⟨e5, hq5⟩ := Prod.mk.inj hq4
      clear hq4
      obtain ⟨e6, hq6⟩ := Prod.mk.inj hq5
      clear hq5
      subst e0
      subst e1
      subst e2
      subst e3
      subst e4
      subst e5
      subst e6
      subst hq6
      exact k_retZ hx hb hr hlocks (isb_or hbz) hP hD hS dX3_readCommand_92
    have h := (if_neg sw_36).symm.trans h
    by_cases sw_37 : r_5 = (5 : Int32)
    · have h := (if_pos sw_37).symm.trans h
      refine lv_lookup (off := 64) (tgt := 93) hx hb dX3_readCommand_29 (by decide) (by first | (rw [sw_37]; done) | (rw [sw_37]; rfl)) (by decide) ?_
      refine lv_aload_n hx hb dX3_readCommand_93 rfl (lv_at hl 0 rfl) ?_
      refine lv_aload_n hx hb dX3_readCommand_94 rfl (lv_at hl 0 rfl) ?_
      refine va_get (D := D) (ci := 3) (v := .int o_1) (C := RX3) (T := TX3) (N := 9) hx hb hu k_iX3 hown hK hP 0 rfl rfl 3 (by decide) (hu _ u_258) (fun _ h9 => h9) rfl dX3_readCommand_95 ?_
      refine va_put (D := D) (ci := 3) (v := .int o_1) (ty := .int) (C := RX3) (T := TX3) (N := 9) hx hb hu k_iX3 tyX3 tyX3_ok nmX3 hown hK hP hD hS 0 rfl rfl 2 (by decide) (hu _ u_256) (fun _ h9 => h9) rfl (by decide +kernel) rfl rfl (Nat.le_of_ble_eq_true rfl) dX3_readCommand_98 (fun H locs hP hD hS => ?_)
      have hP : va_P D vwCl [(qx, .inr (3, [.ref qx_codes, .int x_size, .int o_1, .int o_1, .int o_2, .int r_5, .int x_first, .int x_second, .int x_digit])), (qx_codes, .inl (cI, 80, .inl x_codes))] H := hP
      have hD : va_D A [(qx, .inr (3, [.ref qx_codes, .int x_size, .int o_1, .int o_1, .int o_2, .int r_5, .int x_first, .int x_second, .int x_digit])), (qx_codes, .inl (cI, 80, .inl x_codes))] := hD
      refine lv_iconst (v := (0 : Int32)) hx hb dX3_readCommand_101 (by decide) ?_
      have hq := Option.some.inj h
      clear h
      obtain ⟨e0, hq0⟩ := Prod.mk.inj hq
      clear hq
      obtain ⟨e1, hq1⟩ := Prod.mk.inj hq0
      clear hq0
      obtain ⟨e2, hq2⟩ := Prod.mk.inj hq1
      clear hq1
      obtain ⟨e3, hq3⟩ := Prod.mk.inj hq2
      clear hq2
      obtain ⟨e4, hq4⟩ := Prod.mk.inj hq3
      clear hq3
      obtain ⟨e5, hq5⟩ := Prod.mk.inj hq4
      clear hq4
      obtain ⟨e6, hq6⟩ := Prod.mk.inj hq5
      clear hq5
      subst e0
      subst e1
      subst e2
      subst e3
      subst e4
      subst e5
      subst e6
      subst hq6
      exact k_retZ hx hb hr hlocks (Or.inl rfl) hP hD hS dX3_readCommand_102
    have h := (if_neg sw_37).symm.trans h
    refine lv_lookup (off := 74) (tgt := 103) hx hb dX3_readCommand_29 (by decide) ((lv_osw sw_35 rfl).trans ((lv_osw sw_36 rfl).trans ((lv_osw sw_37 rfl).trans (rfl)))) (by decide) ?_
    refine lv_aload_n hx hb dX3_readCommand_103 rfl (lv_at hl 0 rfl) ?_
    obtain ⟨⟨r_28, o_29, o_30, o_31, o_32, o_33⟩, hc_34, h⟩ := ob_bind h
    dsimp only at h
    refine k_callVI (qb := 0) [0, 1] [0] [0] [(qx, .inr (3, [.ref qx_codes, .int x_size, .int o_29, .int o_30, .int o_31, .int r_5, .int o_32, .int o_33, .int x_digit]))] (As := []) (rest := []) ⟨hx, hb, hml, hown, hts⟩ hT hZ hA hP hD hS (c_X3_readNames l D cI cZ cN aK aV qx qx_codes x_codes x_size x_faultAt o_1 o_2 r_5 x_first x_second x_digit r_28 o_29 o_30 o_31 o_32 o_33 hc_34) ⟨callB_of 0 hts (k_good u_675) rfl rfl rfl (hu _ u_50) (hu _ u_672) (by decide +kernel) ⟨Nat.le_of_ble_eq_true rfl, Nat.le_of_ble_eq_true rfl⟩, hu _ u_674, hu _ u_14⟩ rfl rfl rfl (by decide) (by decide) (by decide) rfl rfl rfl rfl hl.1 rfl (Nat.le_of_ble_eq_true rfl) dX3_readCommand_104 (fun H locs hP hD hS => ?_)
    have hP : va_P D vwCl [(qx, .inr (3, [.ref qx_codes, .int x_size, .int o_29, .int o_30, .int o_31, .int r_5, .int o_32, .int o_33, .int x_digit])), (qx_codes, .inl (cI, 80, .inl x_codes))] H := hP
    have hD : va_D A [(qx, .inr (3, [.ref qx_codes, .int x_size, .int o_29, .int o_30, .int o_31, .int r_5, .int o_32, .int o_33, .int x_digit])), (qx_codes, .inl (cI, 80, .inl x_codes))] := hD
    obtain ⟨hbz, h⟩ := ob_if h
    have hq := Option.some.inj h
    clear h
    obtain ⟨e0, hq0⟩ := Prod.mk.inj hq
    clear hq
    obtain ⟨e1, hq1⟩ := Prod.mk.inj hq0
    clear hq0
    obtain ⟨e2, hq2⟩ := Prod.mk.inj hq1
    clear hq1
    obtain ⟨e3, hq3⟩ := Prod.mk.inj hq2
    clear hq2
    obtain ⟨e4, hq4⟩ := Prod.mk.inj hq3
    clear hq3
    obtain ⟨e5, hq5⟩ := Prod.mk.inj hq4
    clear hq4
    obtain ⟨e6, hq6⟩ := Prod.mk.inj hq5
    clear hq5
    subst e0
    subst e1
    subst e2
    subst e3
    subst e4
    subst e5
    subst e6
    subst hq6
    exact k_retZ hx hb hr hlocks (isb_or hbz) hP hD hS dX3_readCommand_107
  · have h := (if_pos cc_4).symm.trans h
    refine lv_iconst (v := (0 : Int32)) hx hb dX3_readCommand_15 (by decide) ?_
    have hq := Option.some.inj h
    clear h
    obtain ⟨e0, hq0⟩ := Prod.mk.inj hq
    clear hq
    obtain ⟨e1, hq1⟩ := Prod.mk.inj hq0
    clear hq0
    obtain ⟨e2, hq2⟩ := Prod.mk.inj hq1
    clear hq1
    obtain ⟨e3, hq3⟩ := Prod.mk.inj hq2
    clear hq2
    obtain ⟨e4, hq4⟩ := Prod.mk.inj hq3
    clear hq3
    obtain ⟨e5, hq5⟩ := Prod.mk.inj hq4
    clear hq4
    obtain ⟨e6, hq6⟩ := Prod.mk.inj hq5
    clear hq5
    subst e0
    subst e1
    subst e2
    subst e3
    subst e4
    subst e5
    subst e6
    subst hq6
    exact k_retZ hx hb hr hlocks (Or.inl rfl) hP hD hS dX3_readCommand_16
def f_X3_changeLink (p2 : Int32) (x_kind : Int32) (n_alive : Int32) (n_inMap : Int32) : Int32 × Int32 :=
  if x_kind = (1 : Int32) then
    ((f_X5_withBit n_alive p2 (0 : Int32)), n_inMap)
  else
    if x_kind = (2 : Int32) then
      ((f_X5_withBit n_alive p2 (1 : Int32)), n_inMap)
    else
      (n_alive, (f_X5_withBit n_inMap p2 (f_X5_bit n_alive p2)))
set_option maxHeartbeats 4000000 in
set_option maxRecDepth 100000 in
theorem c_X3_changeLink (l : Launch) (D : va_G) (cI cZ cN : ClassId) (aK aV : Nat → Nat)  (qx : Nat) (qx_codes : Nat) (qn : Nat) (qn_low : Nat) (qn_high : Nat) (qn_length : Nat) (x_size : Int32) (x_faultAt : Int32) (x_wordStart : Int32) (x_wordEnd : Int32) (x_kind : Int32) (x_first : Int32) (x_second : Int32) (x_digit : Int32) (n_nodes : Int32) (n_links : Int32) (n_room : Int32) (n_alive : Int32) (n_inMap : Int32) (p2 : Int32) (z_n_alive : Int32) (z_n_inMap : Int32) (h : f_X3_changeLink p2 x_kind n_alive n_inMap = (z_n_alive, z_n_inMap)) : CtV l D cI cZ cN aK aV yX3_changeLink (k_W yX3_changeLink cX3_changeLink 3 none) { frames := 1, cells := 0, slots := 0, locals := 22 } [.ref qx, .ref qn, .int p2] [(qx, .inr (3, [.ref qx_codes, .int x_size, .int x_faultAt, .int x_wordStart, .int x_wordEnd, .int x_kind, .int x_first, .int x_second, .int x_digit])), (qn, .inr (1, [.int n_nodes, .int n_links, .int n_room, .int n_alive, .int n_inMap, .ref qn_low, .ref qn_high, .ref qn_length]))] [(qx, .inr (3, [.ref qx_codes, .int x_size, .int x_faultAt, .int x_wordStart, .int x_wordEnd, .int x_kind, .int x_first, .int x_second, .int x_digit])), (qn, .inr (1, [.int n_nodes, .int n_links, .int n_room, .int z_n_alive, .int z_n_inMap, .ref qn_low, .ref qn_high, .ref qn_length]))] := by
  refine k_startV (by decide) (Nat.le_of_ble_eq_true rfl) ?_
  intro p e s m below meth c A ls hx hb hr hml hown hts hlocks hT hZ hA hP hD hS hl
  have hK := hT.1
  have hu : ∀ w ∈ k_U, w.before ([.ref qx, .ref qn, .int p2] : List Value).toArray s = true := fun w h => hts w (List.mem_cons_of_mem _ h)
  have hown : s.vm.findClass RX3 = some m.cls := hown
  have hl : lv_has ls 3 [(0, .ref qx), (1, .ref qn), (2, .int p2)] := hl
  unfold f_X3_changeLink at h
  refine lv_aload_n hx hb dX3_changeLink_0 rfl (lv_at hl 0 rfl) ?_
  refine va_get (D := D) (ci := 3) (v := .int x_kind) (C := RX3) (T := TX3) (N := 9) hx hb hu k_iX3 hown hK hP 0 rfl rfl 5 (by decide) (hu _ u_260) (fun _ h9 => h9) rfl dX3_changeLink_1 ?_
  refine lv_iconst (v := (1 : Int32)) hx hb dX3_changeLink_4 (by decide) ?_
  refine lv_icmp_ne (tgt := 24) hx hb dX3_changeLink_5 (by decide) (fun cc_1 => ?_) (fun cc_1 => ?_)
  · have h := (if_neg cc_1).symm.trans h
    refine lv_aload_n hx hb dX3_changeLink_24 rfl (lv_at hl 0 rfl) ?_
    refine va_get (D := D) (ci := 3) (v := .int x_kind) (C := RX3) (T := TX3) (N := 9) hx hb hu k_iX3 hown hK hP 0 rfl rfl 5 (by decide) (hu _ u_260) (fun _ h9 => h9) rfl dX3_changeLink_25 ?_
    refine lv_iconst (v := (2 : Int32)) hx hb dX3_changeLink_28 (by decide) ?_
    refine lv_icmp_ne (tgt := 48) hx hb dX3_changeLink_29 (by decide) (fun cc_2 => ?_) (fun cc_2 => ?_)
    · have h := (if_neg cc_2).symm.trans h
      refine lv_aload_n hx hb dX3_changeLink_48 rfl (lv_at hl 1 rfl) ?_
      refine lv_aload_n hx hb dX3_changeLink_49 rfl (lv_at hl 1 rfl) ?_
      refine va_get (D := D) (ci := 1) (v := .int n_inMap) (C := RX1) (T := TX1) (N := 8) hx hb hu k_iX1 hown hK hP 1 rfl rfl 4 (by decide) (hu _ u_90) (fun _ h9 => h9) rfl dX3_changeLink_50 ?_
      refine lv_iload_n hx hb dX3_changeLink_53 rfl (lv_at hl 2 rfl) ?_
      refine lv_aload_n hx hb dX3_changeLink_54 rfl (lv_at hl 1 rfl) ?_
      refine va_get (D := D) (ci := 1) (v := .int n_alive) (C := RX1) (T := TX1) (N := 8) hx hb hu k_iX1 hown hK hP 1 rfl rfl 3 (by decide) (hu _ u_86) (fun _ h9 => h9) rfl dX3_changeLink_55 ?_
      refine lv_iload_n hx hb dX3_changeLink_58 rfl (lv_at hl 2 rfl) ?_
      refine k_call0N (As := [.int n_alive, .int p2]) (rest := [.int p2, .int n_inMap, .ref qn]) ⟨hx, hb, hml, hown, hts⟩ hT hZ hA hP hD hS (c_X5_bit l D cI cZ cN aK aV n_alive p2 _ rfl) ⟨va_cnB 2 hts (k_good u_393) rfl rfl rfl hT.2.2.2.2.2.2.2.2.2.2 (hu _ u_45) (by decide +kernel) ⟨Nat.le_of_ble_eq_true rfl, Nat.le_of_ble_eq_true rfl⟩, hu _ u_392, trivial⟩ rfl hl.1 rfl (Nat.le_of_ble_eq_true rfl) dX3_changeLink_59 (fun H locs hP hD hS => ?_)
      refine k_call0N (As := [.int n_inMap, .int p2, .int (f_X5_bit n_alive p2)]) (rest := [.ref qn]) ⟨hx, hb, hml, hown, hts⟩ hT hZ hA hP hD hS (c_X5_withBit l D cI cZ cN aK aV n_inMap p2 (f_X5_bit n_alive p2) _ rfl) ⟨va_cnB 3 hts (k_good u_368) rfl rfl rfl hT.2.2.2.2.2.2.2.2.2.1 (hu _ u_45) (by decide +kernel) ⟨Nat.le_of_ble_eq_true rfl, Nat.le_of_ble_eq_true rfl⟩, hu _ u_367, trivial⟩ rfl hl.1 rfl (Nat.le_of_ble_eq_true rfl) dX3_changeLink_62 (fun H locs hP hD hS => ?_)
      refine va_put (D := D) (ci := 1) (v := .int (f_X5_withBit n_inMap p2 (f_X5_bit n_alive p2))) (ty := .int) (C := RX1) (T := TX1) (N := 8) hx hb hu k_iX1 tyX1 tyX1_ok nmX1 hown hK hP hD hS 1 rfl rfl 4 (by decide) (hu _ u_90) (fun _ h9 => h9) rfl (by decide +kernel) rfl rfl (Nat.le_of_ble_eq_true rfl) dX3_changeLink_65 (fun H locs hP hD hS => ?_)
      have hP : va_P D vwCl [(qx, .inr (3, [.ref qx_codes, .int x_size, .int x_faultAt, .int x_wordStart, .int x_wordEnd, .int x_kind, .int x_first, .int x_second, .int x_digit])), (qn, .inr (1, [.int n_nodes, .int n_links, .int n_room, .int n_alive, .int (f_X5_withBit n_inMap p2 (f_X5_bit n_alive p2)), .ref qn_low, .ref qn_high, .ref qn_length]))] H := hP
      have hD : va_D A [(qx, .inr (3, [.ref qx_codes, .int x_size, .int x_faultAt, .int x_wordStart, .int x_wordEnd, .int x_kind, .int x_first, .int x_second, .int x_digit])), (qn, .inr (1, [.int n_nodes, .int n_links, .int n_room, .int n_alive, .int (f_X5_withBit n_inMap p2 (f_X5_bit n_alive p2)), .ref qn_low, .ref qn_high, .ref qn_length]))] := hD
      have hq := h
      clear h
      obtain ⟨e0, hq0⟩ := Prod.mk.inj hq
      clear hq
      subst e0
      subst hq0
      exact k_retV hx hb hr hlocks hP hD hS dX3_changeLink_68
    · have h := (if_pos cc_2).symm.trans h
      refine lv_aload_n hx hb dX3_changeLink_32 rfl (lv_at hl 1 rfl) ?_
      refine lv_aload_n hx hb dX3_changeLink_33 rfl (lv_at hl 1 rfl) ?_
      refine va_get (D := D) (ci := 1) (v := .int n_alive) (C := RX1) (T := TX1) (N := 8) hx hb hu k_iX1 hown hK hP 1 rfl rfl 3 (by decide) (hu _ u_86) (fun _ h9 => h9) rfl dX3_changeLink_34 ?_
      refine lv_iload_n hx hb dX3_changeLink_37 rfl (lv_at hl 2 rfl) ?_
      refine lv_iconst (v := (1 : Int32)) hx hb dX3_changeLink_38 (by decide) ?_
      refine k_call0N (As := [.int n_alive, .int p2, .int (1 : Int32)]) (rest := [.ref qn]) ⟨hx, hb, hml, hown, hts⟩ hT hZ hA hP hD hS (c_X5_withBit l D cI cZ cN aK aV n_alive p2 (1 : Int32) _ rfl) ⟨va_cnB 3 hts (k_good u_368) rfl rfl rfl hT.2.2.2.2.2.2.2.2.2.1 (hu _ u_45) (by decide +kernel) ⟨Nat.le_of_ble_eq_true rfl, Nat.le_of_ble_eq_true rfl⟩, hu _ u_367, trivial⟩ rfl hl.1 rfl (Nat.le_of_ble_eq_true rfl) dX3_changeLink_39 (fun H locs hP hD hS => ?_)
      refine va_put (D := D) (ci := 1) (v := .int (f_X5_withBit n_alive p2 (1 : Int32))) (ty := .int) (C := RX1) (T := TX1) (N := 8) hx hb hu k_iX1 tyX1 tyX1_ok nmX1 hown hK hP hD hS 1 rfl rfl 3 (by decide) (hu _ u_86) (fun _ h9 => h9) rfl (by decide +kernel) rfl rfl (Nat.le_of_ble_eq_true rfl) dX3_changeLink_42 (fun H locs hP hD hS => ?_)
      have hP : va_P D vwCl [(qx, .inr (3, [.ref qx_codes, .int x_size, .int x_faultAt, .int x_wordStart, .int x_wordEnd, .int x_kind, .int x_first, .int x_second, .int x_digit])), (qn, .inr (1, [.int n_nodes, .int n_links, .int n_room, .int (f_X5_withBit n_alive p2 (1 : Int32)), .int n_inMap, .ref qn_low, .ref qn_high, .ref qn_length]))] H := hP
      have hD : va_D A [(qx, .inr (3, [.ref qx_codes, .int x_size, .int x_faultAt, .int x_wordStart, .int x_wordEnd, .int x_kind, .int x_first, .int x_second, .int x_digit])), (qn, .inr (1, [.int n_nodes, .int n_links, .int n_room, .int (f_X5_withBit n_alive p2 (1 : Int32)), .int n_inMap, .ref qn_low, .ref qn_high, .ref qn_length]))] := hD
      refine lv_goto (tgt := 68) hx hb dX3_changeLink_45 (by decide) ?_
      have hq := h
      clear h
      obtain ⟨e0, hq0⟩ := Prod.mk.inj hq
      clear hq
      subst e0
      subst hq0
      exact k_retV hx hb hr hlocks hP hD hS dX3_changeLink_68
  · have h := (if_pos cc_1).symm.trans h
    refine lv_aload_n hx hb dX3_changeLink_8 rfl (lv_at hl 1 rfl) ?_
    refine lv_aload_n hx hb dX3_changeLink_9 rfl (lv_at hl 1 rfl) ?_
    refine va_get (D := D) (ci := 1) (v := .int n_alive) (C := RX1) (T := TX1) (N := 8) hx hb hu k_iX1 hown hK hP 1 rfl rfl 3 (by decide) (hu _ u_86) (fun _ h9 => h9) rfl dX3_changeLink_10 ?_
    refine lv_iload_n hx hb dX3_changeLink_13 rfl (lv_at hl 2 rfl) ?_
    refine lv_iconst (v := (0 : Int32)) hx hb dX3_changeLink_14 (by decide) ?_
    refine k_call0N (As := [.int n_alive, .int p2, .int (0 : Int32)]) (rest := [.ref qn]) ⟨hx, hb, hml, hown, hts⟩ hT hZ hA hP hD hS (c_X5_withBit l D cI cZ cN aK aV n_alive p2 (0 : Int32) _ rfl) ⟨va_cnB 3 hts (k_good u_368) rfl rfl rfl hT.2.2.2.2.2.2.2.2.2.1 (hu _ u_45) (by decide +kernel) ⟨Nat.le_of_ble_eq_true rfl, Nat.le_of_ble_eq_true rfl⟩, hu _ u_367, trivial⟩ rfl hl.1 rfl (Nat.le_of_ble_eq_true rfl) dX3_changeLink_15 (fun H locs hP hD hS => ?_)
    refine va_put (D := D) (ci := 1) (v := .int (f_X5_withBit n_alive p2 (0 : Int32))) (ty := .int) (C := RX1) (T := TX1) (N := 8) hx hb hu k_iX1 tyX1 tyX1_ok nmX1 hown hK hP hD hS 1 rfl rfl 3 (by decide) (hu _ u_86) (fun _ h9 => h9) rfl (by decide +kernel) rfl rfl (Nat.le_of_ble_eq_true rfl) dX3_changeLink_18 (fun H locs hP hD hS => ?_)
    have hP : va_P D vwCl [(qx, .inr (3, [.ref qx_codes, .int x_size, .int x_faultAt, .int x_wordStart, .int x_wordEnd, .int x_kind, .int x_first, .int x_second, .int x_digit])), (qn, .inr (1, [.int n_nodes, .int n_links, .int n_room, .int (f_X5_withBit n_alive p2 (0 : Int32)), .int n_inMap, .ref qn_low, .ref qn_high, .ref qn_length]))] H := hP
    have hD : va_D A [(qx, .inr (3, [.ref qx_codes, .int x_size, .int x_faultAt, .int x_wordStart, .int x_wordEnd, .int x_kind, .int x_first, .int x_second, .int x_digit])), (qn, .inr (1, [.int n_nodes, .int n_links, .int n_room, .int (f_X5_withBit n_alive p2 (0 : Int32)), .int n_inMap, .ref qn_low, .ref qn_high, .ref qn_length]))] := hD
    refine lv_goto (tgt := 68) hx hb dX3_changeLink_21 (by decide) ?_
    have hq := h
    clear h
    obtain ⟨e0, hq0⟩ := Prod.mk.inj hq
    clear hq
    subst e0
    subst hq0
    exact k_retV hx hb hr hlocks hP hD hS dX3_changeLink_68
def f_X3_carryOut (x_kind : Int32) (x_first : Int32) (x_second : Int32) (x_digit : Int32) (n_nodes : Int32) (n_links : Int32) (n_alive : Int32) (n_inMap : Int32) (n_low : (Nat → Int32)) (n_high : (Nat → Int32)) (n_length : (Nat → Int32)) : Option (Int32 × Int32 × Int32 × Int32 × Int32 × (Nat → Int32) × (Nat → Int32) × (Nat → Int32)) :=
  if x_kind = (4 : Int32) then
    some ((1 : Int32), ((f_X1_clear x_digit n_nodes n_links n_alive n_inMap).1), ((f_X1_clear x_digit n_nodes n_links n_alive n_inMap).2.1), ((f_X1_clear x_digit n_nodes n_links n_alive n_inMap).2.2.1), ((f_X1_clear x_digit n_nodes n_links n_alive n_inMap).2.2.2), n_low, n_high, n_length)
  else
    if x_kind = (0 : Int32) then
      (f_X1_refusalOfLink x_first x_second x_digit n_nodes n_links n_low n_high).bind fun r_6 =>
      if r_6 = (0 : Int32) then
        (f_X1_appendLink x_first x_second x_digit n_links n_alive n_inMap n_low n_high n_length).bind fun ⟨o_9, o_10, o_11, o_12, o_13, o_14⟩ =>
        some ((1 : Int32), n_nodes, o_9, o_10, o_11, o_12, o_13, o_14)
      else
        some ((0 : Int32), n_nodes, n_links, n_alive, n_inMap, n_low, n_high, n_length)
    else
      (f_X1_findLink x_first x_second n_links n_low n_high).bind fun r_3 =>
      if r_3 = (-1 : Int32) then
        some ((0 : Int32), n_nodes, n_links, n_alive, n_inMap, n_low, n_high, n_length)
      else
        some ((1 : Int32), n_nodes, n_links, ((f_X3_changeLink r_3 x_kind n_alive n_inMap).1), ((f_X3_changeLink r_3 x_kind n_alive n_inMap).2), n_low, n_high, n_length)
set_option maxHeartbeats 4000000 in
set_option maxRecDepth 100000 in
theorem c_X3_carryOut (l : Launch) (D : va_G) (cI cZ cN : ClassId) (aK aV : Nat → Nat)  (qx : Nat) (qx_codes : Nat) (qn : Nat) (qn_low : Nat) (qn_high : Nat) (qn_length : Nat) (x_size : Int32) (x_faultAt : Int32) (x_wordStart : Int32) (x_wordEnd : Int32) (x_kind : Int32) (x_first : Int32) (x_second : Int32) (x_digit : Int32) (n_nodes : Int32) (n_links : Int32) (n_room : Int32) (n_alive : Int32) (n_inMap : Int32) (n_low : (Nat → Int32)) (n_high : (Nat → Int32)) (n_length : (Nat → Int32)) (r : Int32) (z_n_nodes : Int32) (z_n_links : Int32) (z_n_alive : Int32) (z_n_inMap : Int32) (z_n_low : (Nat → Int32)) (z_n_high : (Nat → Int32)) (z_n_length : (Nat → Int32)) (h : f_X3_carryOut x_kind x_first x_second x_digit n_nodes n_links n_alive n_inMap n_low n_high n_length = some (r, z_n_nodes, z_n_links, z_n_alive, z_n_inMap, z_n_low, z_n_high, z_n_length)) : CtI l D cI cZ cN aK aV yX3_carryOut (k_W yX3_carryOut cX3_carryOut 3 (some .boolean)) { frames := 3, cells := 0, slots := 0, locals := 60 } [.ref qx, .ref qn] [(qx, .inr (3, [.ref qx_codes, .int x_size, .int x_faultAt, .int x_wordStart, .int x_wordEnd, .int x_kind, .int x_first, .int x_second, .int x_digit])), (qn, .inr (1, [.int n_nodes, .int n_links, .int n_room, .int n_alive, .int n_inMap, .ref qn_low, .ref qn_high, .ref qn_length])), (qn_low, .inl (cI, 18, .inl n_low)), (qn_high, .inl (cI, 18, .inl n_high)), (qn_length, .inl (cI, 18, .inl n_length))] r [(qx, .inr (3, [.ref qx_codes, .int x_size, .int x_faultAt, .int x_wordStart, .int x_wordEnd, .int x_kind, .int x_first, .int x_second, .int x_digit])), (qn, .inr (1, [.int z_n_nodes, .int z_n_links, .int n_room, .int z_n_alive, .int z_n_inMap, .ref qn_low, .ref qn_high, .ref qn_length])), (qn_low, .inl (cI, 18, .inl z_n_low)), (qn_high, .inl (cI, 18, .inl z_n_high)), (qn_length, .inl (cI, 18, .inl z_n_length))] := by
  refine k_startI (by decide) (Nat.le_of_ble_eq_true rfl) ?_
  intro p e s m below meth c A ls hx hb hr hml hown hts hlocks hT hZ hA hP hD hS hl
  have hK := hT.1
  have hu : ∀ w ∈ k_U, w.before ([.ref qx, .ref qn] : List Value).toArray s = true := fun w h => hts w (List.mem_cons_of_mem _ h)
  have hown : s.vm.findClass RX3 = some m.cls := hown
  have hl : lv_has ls 3 [(0, .ref qx), (1, .ref qn)] := hl
  unfold f_X3_carryOut at h
  refine lv_aload_n hx hb dX3_carryOut_0 rfl (lv_at hl 0 rfl) ?_
  refine va_get (D := D) (ci := 3) (v := .int x_kind) (C := RX3) (T := TX3) (N := 9) hx hb hu k_iX3 hown hK hP 0 rfl rfl 5 (by decide) (hu _ u_260) (fun _ h9 => h9) rfl dX3_carryOut_1 ?_
  refine lv_iconst (v := (4 : Int32)) hx hb dX3_carryOut_4 (by decide) ?_
  refine lv_icmp_ne (tgt := 18) hx hb dX3_carryOut_5 (by decide) (fun cc_1 => ?_) (fun cc_1 => ?_)
  · have h := (if_neg cc_1).symm.trans h
    refine lv_aload_n hx hb dX3_carryOut_18 rfl (lv_at hl 0 rfl) ?_
    refine va_get (D := D) (ci := 3) (v := .int x_kind) (C := RX3) (T := TX3) (N := 9) hx hb hu k_iX3 hown hK hP 0 rfl rfl 5 (by decide) (hu _ u_260) (fun _ h9 => h9) rfl dX3_carryOut_19 ?_
    refine lv_if_ne (tgt := 64) hx hb dX3_carryOut_22 (by decide) (fun cc_2 => ?_) (fun cc_2 => ?_)
    · have h := (if_neg cc_2).symm.trans h
      refine lv_aload_n hx hb dX3_carryOut_64 rfl (lv_at hl 1 rfl) ?_
      refine lv_aload_n hx hb dX3_carryOut_65 rfl (lv_at hl 0 rfl) ?_
      refine va_get (D := D) (ci := 3) (v := .int x_first) (C := RX3) (T := TX3) (N := 9) hx hb hu k_iX3 hown hK hP 0 rfl rfl 6 (by decide) (hu _ u_261) (fun _ h9 => h9) rfl dX3_carryOut_66 ?_
      refine lv_aload_n hx hb dX3_carryOut_69 rfl (lv_at hl 0 rfl) ?_
      refine va_get (D := D) (ci := 3) (v := .int x_second) (C := RX3) (T := TX3) (N := 9) hx hb hu k_iX3 hown hK hP 0 rfl rfl 7 (by decide) (hu _ u_262) (fun _ h9 => h9) rfl dX3_carryOut_70 ?_
      obtain ⟨r_3, hc_4, h⟩ := ob_bind h
      refine k_callVIr (qb := 0) [1, 2, 3] (As := [.int x_first, .int x_second]) (rest := []) ⟨hx, hb, hml, hown, hts⟩ hT hZ hA hP hD hS (c_X1_findLink l D cI cZ cN aK aV qn qn_low qn_high qn_length n_nodes n_links n_room n_alive n_inMap n_low n_high x_first x_second r_3 hc_4) ⟨callB_of 2 hts (k_good u_355) rfl rfl rfl (hu _ u_46) (hu _ u_697) (by decide +kernel) ⟨Nat.le_of_ble_eq_true rfl, Nat.le_of_ble_eq_true rfl⟩, hu _ u_353, hu _ u_354⟩ rfl rfl rfl (by decide) rfl hl.1 rfl (Nat.le_of_ble_eq_true rfl) dX3_carryOut_73 (fun H locs hP hD hS => ?_)
      refine lv_istore_n (lv' := [(2, .int r_3), (0, .ref qx), (1, .ref qn)]) hx hb dX3_carryOut_76 rfl hl (by decide) rfl (fun ls hl => ?_)
      refine lv_iload_n hx hb dX3_carryOut_77 rfl (lv_at hl 0 rfl) ?_
      refine lv_iconst (v := (-1 : Int32)) hx hb dX3_carryOut_78 (by decide) ?_
      refine lv_icmp_ne (tgt := 84) hx hb dX3_carryOut_79 (by decide) (fun cc_5 => ?_) (fun cc_5 => ?_)
      · have h := (if_neg cc_5).symm.trans h
        refine lv_aload_n hx hb dX3_carryOut_84 rfl (lv_at hl 1 rfl) ?_
        refine lv_aload_n hx hb dX3_carryOut_85 rfl (lv_at hl 2 rfl) ?_
        refine lv_iload_n hx hb dX3_carryOut_86 rfl (lv_at hl 0 rfl) ?_
        refine k_callVV (qb := 0) [0, 1] [1] [1] [(qn, .inr (1, [.int n_nodes, .int n_links, .int n_room, .int ((f_X3_changeLink r_3 x_kind n_alive n_inMap).1), .int ((f_X3_changeLink r_3 x_kind n_alive n_inMap).2), .ref qn_low, .ref qn_high, .ref qn_length]))] (As := [.ref qn, .int r_3]) (rest := []) ⟨hx, hb, hml, hown, hts⟩ hT hZ hA hP hD hS (c_X3_changeLink l D cI cZ cN aK aV qx qx_codes qn qn_low qn_high qn_length x_size x_faultAt x_wordStart x_wordEnd x_kind x_first x_second x_digit n_nodes n_links n_room n_alive n_inMap r_3 _ _ rfl) ⟨callB_of 2 hts (k_good u_701) rfl rfl rfl (hu _ u_50) (hu _ u_698) (by decide +kernel) ⟨Nat.le_of_ble_eq_true rfl, Nat.le_of_ble_eq_true rfl⟩, hu _ u_700, hu _ u_17⟩ rfl rfl rfl (by decide) (by decide) (by decide) rfl rfl rfl rfl hl.1 rfl (Nat.le_of_ble_eq_true rfl) dX3_carryOut_87 (fun H locs hP hD hS => ?_)
        have hP : va_P D vwCl [(qx, .inr (3, [.ref qx_codes, .int x_size, .int x_faultAt, .int x_wordStart, .int x_wordEnd, .int x_kind, .int x_first, .int x_second, .int x_digit])), (qn, .inr (1, [.int n_nodes, .int n_links, .int n_room, .int ((f_X3_changeLink r_3 x_kind n_alive n_inMap).1), .int ((f_X3_changeLink r_3 x_kind n_alive n_inMap).2), .ref qn_low, .ref qn_high, .ref qn_length])), (qn_low, .inl (cI, 18, .inl n_low)), (qn_high, .inl (cI, 18, .inl n_high)), (qn_length, .inl (cI, 18, .inl n_length))] H := hP
        have hD : va_D A [(qx, .inr (3, [.ref qx_codes, .int x_size, .int x_faultAt, .int x_wordStart, .int x_wordEnd, .int x_kind, .int x_first, .int x_second, .int x_digit])), (qn, .inr (1, [.int n_nodes, .int n_links, .int n_room, .int ((f_X3_changeLink r_3 x_kind n_alive n_inMap).1), .int ((f_X3_changeLink r_3 x_kind n_alive n_inMap).2), .ref qn_low, .ref qn_high, .ref qn_length])), (qn_low, .inl (cI, 18, .inl n_low)), (qn_high, .inl (cI, 18, .inl n_high)), (qn_length, .inl (cI, 18, .inl n_length))] := hD
        refine lv_iconst (v := (1 : Int32)) hx hb dX3_carryOut_90 (by decide) ?_
        have hq := Option.some.inj h
        clear h
        obtain ⟨e0, hq0⟩ := Prod.mk.inj hq
        clear hq
        obtain ⟨e1, hq1⟩ := Prod.mk.inj hq0
        clear hq0
        obtain ⟨e2, hq2⟩ := Prod.mk.inj hq1
        clear hq1
        obtain ⟨e3, hq3⟩ := Prod.mk.inj hq2
        clear hq2
        obtain ⟨e4, hq4⟩ := Prod.mk.inj hq3
        clear hq3
        obtain ⟨e5, hq5⟩ := Prod.mk.inj hq4
        clear hq4
        obtain ⟨e6, hq6⟩ := Prod.mk.inj hq5
        clear hq5
        subst e0
        subst e1
        subst e2
        subst e3
        subst e4
        subst e5
        subst e6
        subst hq6
        exact k_retZ hx hb hr hlocks (Or.inr rfl) hP hD hS dX3_carryOut_91
      · have h := (if_pos cc_5).symm.trans h
        refine lv_iconst (v := (0 : Int32)) hx hb dX3_carryOut_82 (by decide) ?_
        have hq := Option.some.inj h
        clear h
        obtain ⟨e0, hq0⟩ := Prod.mk.inj hq
        clear hq
        obtain ⟨e1, hq1⟩ := Prod.mk.inj hq0
        clear hq0
        obtain ⟨e2, hq2⟩ := Prod.mk.inj hq1
        clear hq1
        obtain ⟨e3, hq3⟩ := Prod.mk.inj hq2
        clear hq2
        obtain ⟨e4, hq4⟩ := Prod.mk.inj hq3
        clear hq3
        obtain ⟨e5, hq5⟩ := Prod.mk.inj hq4
        clear hq4
        obtain ⟨e6, hq6⟩ := Prod.mk.inj hq5
        clear hq5
        subst e0
        subst e1
        subst e2
        subst e3
        subst e4
        subst e5
        subst e6
        subst hq6
        exact k_retZ hx hb hr hlocks (Or.inl rfl) hP hD hS dX3_carryOut_83
    · have h := (if_pos cc_2).symm.trans h
      refine lv_aload_n hx hb dX3_carryOut_25 rfl (lv_at hl 1 rfl) ?_
      refine lv_aload_n hx hb dX3_carryOut_26 rfl (lv_at hl 0 rfl) ?_
      refine va_get (D := D) (ci := 3) (v := .int x_first) (C := RX3) (T := TX3) (N := 9) hx hb hu k_iX3 hown hK hP 0 rfl rfl 6 (by decide) (hu _ u_261) (fun _ h9 => h9) rfl dX3_carryOut_27 ?_
      refine lv_aload_n hx hb dX3_carryOut_30 rfl (lv_at hl 0 rfl) ?_
      refine va_get (D := D) (ci := 3) (v := .int x_second) (C := RX3) (T := TX3) (N := 9) hx hb hu k_iX3 hown hK hP 0 rfl rfl 7 (by decide) (hu _ u_262) (fun _ h9 => h9) rfl dX3_carryOut_31 ?_
      refine lv_aload_n hx hb dX3_carryOut_34 rfl (lv_at hl 0 rfl) ?_
      refine va_get (D := D) (ci := 3) (v := .int x_digit) (C := RX3) (T := TX3) (N := 9) hx hb hu k_iX3 hown hK hP 0 rfl rfl 8 (by decide) (hu _ u_263) (fun _ h9 => h9) rfl dX3_carryOut_35 ?_
      obtain ⟨r_6, hc_7, h⟩ := ob_bind h
      refine k_callVIr (qb := 0) [1, 2, 3] (As := [.int x_first, .int x_second, .int x_digit]) (rest := []) ⟨hx, hb, hml, hown, hts⟩ hT hZ hA hP hD hS (c_X1_refusalOfLink l D cI cZ cN aK aV qn qn_low qn_high qn_length n_nodes n_links n_room n_alive n_inMap n_low n_high x_first x_second x_digit r_6 hc_7) ⟨callB_of 3 hts (k_good u_347) rfl rfl rfl (hu _ u_46) (hu _ u_695) (by decide +kernel) ⟨Nat.le_of_ble_eq_true rfl, Nat.le_of_ble_eq_true rfl⟩, hu _ u_345, hu _ u_346⟩ rfl rfl rfl (by decide) rfl hl.1 rfl (Nat.le_of_ble_eq_true rfl) dX3_carryOut_38 (fun H locs hP hD hS => ?_)
      refine lv_if_eq (tgt := 46) hx hb dX3_carryOut_41 (by decide) (fun cc_8 => ?_) (fun cc_8 => ?_)
      · have h := (if_pos cc_8).symm.trans h
        refine lv_aload_n hx hb dX3_carryOut_46 rfl (lv_at hl 1 rfl) ?_
        refine lv_aload_n hx hb dX3_carryOut_47 rfl (lv_at hl 0 rfl) ?_
        refine va_get (D := D) (ci := 3) (v := .int x_first) (C := RX3) (T := TX3) (N := 9) hx hb hu k_iX3 hown hK hP 0 rfl rfl 6 (by decide) (hu _ u_261) (fun _ h9 => h9) rfl dX3_carryOut_48 ?_
        refine lv_aload_n hx hb dX3_carryOut_51 rfl (lv_at hl 0 rfl) ?_
        refine va_get (D := D) (ci := 3) (v := .int x_second) (C := RX3) (T := TX3) (N := 9) hx hb hu k_iX3 hown hK hP 0 rfl rfl 7 (by decide) (hu _ u_262) (fun _ h9 => h9) rfl dX3_carryOut_52 ?_
        refine lv_aload_n hx hb dX3_carryOut_55 rfl (lv_at hl 0 rfl) ?_
        refine va_get (D := D) (ci := 3) (v := .int x_digit) (C := RX3) (T := TX3) (N := 9) hx hb hu k_iX3 hown hK hP 0 rfl rfl 8 (by decide) (hu _ u_263) (fun _ h9 => h9) rfl dX3_carryOut_56 ?_
        obtain ⟨⟨o_9, o_10, o_11, o_12, o_13, o_14⟩, hc_15, h⟩ := ob_bind h
        dsimp only at h
        refine k_callVV (qb := 0) [1, 2, 3, 4] [0, 1, 2, 3] [1, 2, 3, 4] [(qn, .inr (1, [.int n_nodes, .int o_9, .int n_room, .int o_10, .int o_11, .ref qn_low, .ref qn_high, .ref qn_length])), (qn_low, .inl (cI, 18, .inl o_12)), (qn_high, .inl (cI, 18, .inl o_13)), (qn_length, .inl (cI, 18, .inl o_14))] (As := [.int x_first, .int x_second, .int x_digit]) (rest := []) ⟨hx, hb, hml, hown, hts⟩ hT hZ hA hP hD hS (c_X1_appendLink l D cI cZ cN aK aV qn qn_low qn_high qn_length n_nodes n_links n_room n_alive n_inMap n_low n_high n_length x_first x_second x_digit o_9 o_10 o_11 o_12 o_13 o_14 hc_15) ⟨callB_of 3 hts (k_good u_365) rfl rfl rfl (hu _ u_46) (hu _ u_696) (by decide +kernel) ⟨Nat.le_of_ble_eq_true rfl, Nat.le_of_ble_eq_true rfl⟩, hu _ u_363, hu _ u_364⟩ rfl rfl rfl (by decide) (by decide) (by decide) rfl rfl rfl rfl hl.1 rfl (Nat.le_of_ble_eq_true rfl) dX3_carryOut_59 (fun H locs hP hD hS => ?_)
        have hP : va_P D vwCl [(qx, .inr (3, [.ref qx_codes, .int x_size, .int x_faultAt, .int x_wordStart, .int x_wordEnd, .int x_kind, .int x_first, .int x_second, .int x_digit])), (qn, .inr (1, [.int n_nodes, .int o_9, .int n_room, .int o_10, .int o_11, .ref qn_low, .ref qn_high, .ref qn_length])), (qn_low, .inl (cI, 18, .inl o_12)), (qn_high, .inl (cI, 18, .inl o_13)), (qn_length, .inl (cI, 18, .inl o_14))] H := hP
        have hD : va_D A [(qx, .inr (3, [.ref qx_codes, .int x_size, .int x_faultAt, .int x_wordStart, .int x_wordEnd, .int x_kind, .int x_first, .int x_second, .int x_digit])), (qn, .inr (1, [.int n_nodes, .int o_9, .int n_room, .int o_10, .int o_11, .ref qn_low, .ref qn_high, .ref qn_length])), (qn_low, .inl (cI, 18, .inl o_12)), (qn_high, .inl (cI, 18, .inl o_13)), (qn_length, .inl (cI, 18, .inl o_14))] := hD
        refine lv_iconst (v := (1 : Int32)) hx hb dX3_carryOut_62 (by decide) ?_
        have hq := Option.some.inj h
        clear h
        obtain ⟨e0, hq0⟩ := Prod.mk.inj hq
        clear hq
        obtain ⟨e1, hq1⟩ := Prod.mk.inj hq0
        clear hq0
        obtain ⟨e2, hq2⟩ := Prod.mk.inj hq1
        clear hq1
        obtain ⟨e3, hq3⟩ := Prod.mk.inj hq2
        clear hq2
        obtain ⟨e4, hq4⟩ := Prod.mk.inj hq3
        clear hq3
        obtain ⟨e5, hq5⟩ := Prod.mk.inj hq4
        clear hq4
        obtain ⟨e6, hq6⟩ := Prod.mk.inj hq5
        clear hq5
        subst e0
        subst e1
        subst e2
        subst e3
        subst e4
        subst e5
        subst e6
        subst hq6
        exact k_retZ hx hb hr hlocks (Or.inr rfl) hP hD hS dX3_carryOut_63
      · have h := (if_neg cc_8).symm.trans h
        refine lv_iconst (v := (0 : Int32)) hx hb dX3_carryOut_44 (by decide) ?_
        have hq := Option.some.inj h
        clear h
        obtain ⟨e0, hq0⟩ := Prod.mk.inj hq
        clear hq
        obtain ⟨e1, hq1⟩ := Prod.mk.inj hq0
        clear hq0
        obtain ⟨e2, hq2⟩ := Prod.mk.inj hq1
        clear hq1
        obtain ⟨e3, hq3⟩ := Prod.mk.inj hq2
        clear hq2
        obtain ⟨e4, hq4⟩ := Prod.mk.inj hq3
        clear hq3
        obtain ⟨e5, hq5⟩ := Prod.mk.inj hq4
        clear hq4
        obtain ⟨e6, hq6⟩ := Prod.mk.inj hq5
        clear hq5
        subst e0
        subst e1
        subst e2
        subst e3
        subst e4
        subst e5
        subst e6
        subst hq6
        exact k_retZ hx hb hr hlocks (Or.inl rfl) hP hD hS dX3_carryOut_45
  · have h := (if_pos cc_1).symm.trans h
    refine lv_aload_n hx hb dX3_carryOut_8 rfl (lv_at hl 1 rfl) ?_
    refine lv_aload_n hx hb dX3_carryOut_9 rfl (lv_at hl 0 rfl) ?_
    refine va_get (D := D) (ci := 3) (v := .int x_digit) (C := RX3) (T := TX3) (N := 9) hx hb hu k_iX3 hown hK hP 0 rfl rfl 8 (by decide) (hu _ u_263) (fun _ h9 => h9) rfl dX3_carryOut_10 ?_
    refine k_callVV (qb := 0) [1] [0] [1] [(qn, .inr (1, [.int ((f_X1_clear x_digit n_nodes n_links n_alive n_inMap).1), .int ((f_X1_clear x_digit n_nodes n_links n_alive n_inMap).2.1), .int n_room, .int ((f_X1_clear x_digit n_nodes n_links n_alive n_inMap).2.2.1), .int ((f_X1_clear x_digit n_nodes n_links n_alive n_inMap).2.2.2), .ref qn_low, .ref qn_high, .ref qn_length]))] (As := [.int x_digit]) (rest := []) ⟨hx, hb, hml, hown, hts⟩ hT hZ hA hP hD hS (c_X1_clear l D cI cZ cN aK aV qn qn_low qn_high qn_length n_nodes n_links n_room n_alive n_inMap x_digit _ _ _ _ rfl) ⟨callB_of 1 hts (k_good u_339) rfl rfl rfl (hu _ u_46) (hu _ u_694) (by decide +kernel) ⟨Nat.le_of_ble_eq_true rfl, Nat.le_of_ble_eq_true rfl⟩, hu _ u_337, hu _ u_338⟩ rfl rfl rfl (by decide) (by decide) (by decide) rfl rfl rfl rfl hl.1 rfl (Nat.le_of_ble_eq_true rfl) dX3_carryOut_13 (fun H locs hP hD hS => ?_)
    have hP : va_P D vwCl [(qx, .inr (3, [.ref qx_codes, .int x_size, .int x_faultAt, .int x_wordStart, .int x_wordEnd, .int x_kind, .int x_first, .int x_second, .int x_digit])), (qn, .inr (1, [.int ((f_X1_clear x_digit n_nodes n_links n_alive n_inMap).1), .int ((f_X1_clear x_digit n_nodes n_links n_alive n_inMap).2.1), .int n_room, .int ((f_X1_clear x_digit n_nodes n_links n_alive n_inMap).2.2.1), .int ((f_X1_clear x_digit n_nodes n_links n_alive n_inMap).2.2.2), .ref qn_low, .ref qn_high, .ref qn_length])), (qn_low, .inl (cI, 18, .inl n_low)), (qn_high, .inl (cI, 18, .inl n_high)), (qn_length, .inl (cI, 18, .inl n_length))] H := hP
    have hD : va_D A [(qx, .inr (3, [.ref qx_codes, .int x_size, .int x_faultAt, .int x_wordStart, .int x_wordEnd, .int x_kind, .int x_first, .int x_second, .int x_digit])), (qn, .inr (1, [.int ((f_X1_clear x_digit n_nodes n_links n_alive n_inMap).1), .int ((f_X1_clear x_digit n_nodes n_links n_alive n_inMap).2.1), .int n_room, .int ((f_X1_clear x_digit n_nodes n_links n_alive n_inMap).2.2.1), .int ((f_X1_clear x_digit n_nodes n_links n_alive n_inMap).2.2.2), .ref qn_low, .ref qn_high, .ref qn_length])), (qn_low, .inl (cI, 18, .inl n_low)), (qn_high, .inl (cI, 18, .inl n_high)), (qn_length, .inl (cI, 18, .inl n_length))] := hD
    refine lv_iconst (v := (1 : Int32)) hx hb dX3_carryOut_16 (by decide) ?_
    have hq := Option.some.inj h
    clear h
    obtain ⟨e0, hq0⟩ := Prod.mk.inj hq
    clear hq
    obtain ⟨e1, hq1⟩ := Prod.mk.inj hq0
    clear hq0
    obtain ⟨e2, hq2⟩ := Prod.mk.inj hq1
    clear hq1
    obtain ⟨e3, hq3⟩ := Prod.mk.inj hq2
    clear hq2
    obtain ⟨e4, hq4⟩ := Prod.mk.inj hq3
    clear hq3
    obtain ⟨e5, hq5⟩ := Prod.mk.inj hq4
    clear hq4
    obtain ⟨e6, hq6⟩ := Prod.mk.inj hq5
    clear hq5
    subst e0
    subst e1
    subst e2
    subst e3
    subst e4
    subst e5
    subst e6
    subst hq6
    exact k_retZ hx hb hr hlocks (Or.inr rfl) hP hD hS dX3_carryOut_17
