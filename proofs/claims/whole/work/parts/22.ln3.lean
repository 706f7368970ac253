def f_X5_told (p1 : Int32) (x_undoable : Int32) (n_nodes : Int32) (n_links : Int32) (n_room : Int32) (n_alive : Int32) (n_inMap : Int32) (n_low : (Nat → Int32)) (n_high : (Nat → Int32)) (z_size : Int32) : Option (Int32) :=
  if p1 = (0 : Int32) then
    some (n_nodes)
  else
  if p1 = (1 : Int32) then
    some (n_links)
  else
  if p1 = (2 : Int32) then
    some ((f_J6_bitCount_0f7a4 n_alive))
  else
  if p1 = (3 : Int32) then
    some ((f_J6_bitCount_0f7a4 n_inMap))
  else
  if p1 = (4 : Int32) then
    some ((f_X1_countWrongInMap n_alive n_inMap))
  else
  if p1 = (5 : Int32) then
    some (n_room)
  else
  if p1 = (6 : Int32) then
    some (z_size)
  else
  if p1 = (7 : Int32) then
    some (x_undoable)
  else
  if p1 = (8 : Int32) then
    (f_X1_countParts n_nodes n_links n_alive n_low n_high).bind fun r_1 =>
    some (r_1)
  else
  some ((-1 : Int32))
set_option maxHeartbeats 4000000 in
set_option maxRecDepth 100000 in
theorem c_X5_told (l : Launch) (D : va_G) (cI cZ cN : ClassId) (aK aV : Nat → Nat)  (qx : Nat) (qx_history : Nat) (qx_images : Nat) (qx_kept : Nat) (qn : Nat) (qn_low : Nat) (qn_high : Nat) (qn_length : Nat) (qd : Nat) (qy : Nat) (qt : Nat) (qv : Nat) (qz : Nat) (qz_codes : Nat) (x_undoable : Int32) (x_letterSent : Int32) (x_letterFits : Int32) (n_nodes : Int32) (n_links : Int32) (n_room : Int32) (n_alive : Int32) (n_inMap : Int32) (n_low : (Nat → Int32)) (n_high : (Nat → Int32)) (z_size : Int32) (z_faultAt : Int32) (z_wordStart : Int32) (z_wordEnd : Int32) (z_kind : Int32) (z_first : Int32) (z_second : Int32) (z_digit : Int32) (p1 : Int32) (r : Int32) (h : f_X5_told p1 x_undoable n_nodes n_links n_room n_alive n_inMap n_low n_high z_size = some r) : CtI l D cI cZ cN aK aV yX5_told (k_W yX5_told cX5_told 2 (some .int)) { frames := 3, cells := 0, slots := 0, locals := 70 } [.ref qx, .int p1] [(qz, .inr (3, [.ref qz_codes, .int z_size, .int z_faultAt, .int z_wordStart, .int z_wordEnd, .int z_kind, .int z_first, .int z_second, .int z_digit])), (qx, .inr (5, [.ref qn, .ref qd, .ref qx_history, .int x_undoable, .ref qx_images, .ref qx_kept, .ref qy, .ref qt, .int x_letterSent, .int x_letterFits, .ref qv, .ref qz])), (qn, .inr (1, [.int n_nodes, .int n_links, .int n_room, .int n_alive, .int n_inMap, .ref qn_low, .ref qn_high, .ref qn_length])), (qn_low, .inl (cI, 18, .inl n_low)), (qn_high, .inl (cI, 18, .inl n_high))] r [(qz, .inr (3, [.ref qz_codes, .int z_size, .int z_faultAt, .int z_wordStart, .int z_wordEnd, .int z_kind, .int z_first, .int z_second, .int z_digit])), (qx, .inr (5, [.ref qn, .ref qd, .ref qx_history, .int x_undoable, .ref qx_images, .ref qx_kept, .ref qy, .ref qt, .int x_letterSent, .int x_letterFits, .ref qv, .ref qz])), (qn, .inr (1, [.int n_nodes, .int n_links, .int n_room, .int n_alive, .int n_inMap, .ref qn_low, .ref qn_high, .ref qn_length])), (qn_low, .inl (cI, 18, .inl n_low)), (qn_high, .inl (cI, 18, .inl n_high))] := by
  refine k_startI (by decide) (Nat.le_of_ble_eq_true rfl) ?_
  intro p e s m below meth c A ls hx hb hr hml hown hts hlocks hT hZ hA hP hD hS hl
  have hK := hT.1
  have hu : ∀ w ∈ k_U, w.before ([.ref qx, .int p1] : List Value).toArray s = true := fun w h => hts w (List.mem_cons_of_mem _ h)
  have hown : s.vm.findClass RX5 = some m.cls := hown
  have hl : lv_has ls 2 [(0, .ref qx), (1, .int p1)] := hl
  unfold f_X5_told at h
  refine lv_iload_n hx hb dX5_told_0 rfl (lv_at hl 1 rfl) ?_
  by_cases sw_3 : p1 = (0 : Int32)
  · have h := (if_pos sw_3).symm.trans h
    refine lv_tableIn (tgt := 52) hx hb dX5_told_1 (by rw [sw_3]; decide) (by rw [sw_3]; decide) (by rw [sw_3]; rfl) (by decide) ?_
    refine lv_aload_n hx hb dX5_told_52 rfl (lv_at hl 0 rfl) ?_
    refine va_get (D := D) (ci := 5) (v := .ref qn) (C := RX5) (T := TX5) (N := 12) hx hb hu k_iX5 hown hK hP 1 rfl rfl 0 (by decide) (hu _ u_283) (fun _ h9 => h9) rfl dX5_told_53 ?_
    refine va_get (D := D) (ci := 1) (v := .int n_nodes) (C := RX1) (T := TX1) (N := 8) hx hb hu k_iX1 hown hK hP 2 rfl rfl 0 (by decide) (hu _ u_75) (fun _ h9 => h9) rfl dX5_told_56 ?_
    have hq := Option.some.inj h
    clear h
    subst hq
    exact k_retI hx hb hr hlocks hP hD hS dX5_told_59
  have h := (if_neg sw_3).symm.trans h
  by_cases sw_4 : p1 = (1 : Int32)
  · have h := (if_pos sw_4).symm.trans h
    refine lv_tableIn (tgt := 60) hx hb dX5_told_1 (by rw [sw_4]; decide) (by rw [sw_4]; decide) (by rw [sw_4]; rfl) (by decide) ?_
    refine lv_aload_n hx hb dX5_told_60 rfl (lv_at hl 0 rfl) ?_
    refine va_get (D := D) (ci := 5) (v := .ref qn) (C := RX5) (T := TX5) (N := 12) hx hb hu k_iX5 hown hK hP 1 rfl rfl 0 (by decide) (hu _ u_283) (fun _ h9 => h9) rfl dX5_told_61 ?_
    refine va_get (D := D) (ci := 1) (v := .int n_links) (C := RX1) (T := TX1) (N := 8) hx hb hu k_iX1 hown hK hP 2 rfl rfl 1 (by decide) (hu _ u_78) (fun _ h9 => h9) rfl dX5_told_64 ?_
    have hq := Option.some.inj h
    clear h
    subst hq
    exact k_retI hx hb hr hlocks hP hD hS dX5_told_67
  have h := (if_neg sw_4).symm.trans h
  by_cases sw_5 : p1 = (2 : Int32)
  · have h := (if_pos sw_5).symm.trans h
    refine lv_tableIn (tgt := 68) hx hb dX5_told_1 (by rw [sw_5]; decide) (by rw [sw_5]; decide) (by rw [sw_5]; rfl) (by decide) ?_
    refine lv_aload_n hx hb dX5_told_68 rfl (lv_at hl 0 rfl) ?_
    refine va_get (D := D) (ci := 5) (v := .ref qn) (C := RX5) (T := TX5) (N := 12) hx hb hu k_iX5 hown hK hP 1 rfl rfl 0 (by decide) (hu _ u_283) (fun _ h9 => h9) rfl dX5_told_69 ?_
    refine va_get (D := D) (ci := 1) (v := .int n_alive) (C := RX1) (T := TX1) (N := 8) hx hb hu k_iX1 hown hK hP 2 rfl rfl 3 (by decide) (hu _ u_85) (fun _ h9 => h9) rfl dX5_told_72 ?_
    refine k_call0 (As := [.int n_alive]) (rest := []) ⟨hx, hb, hml, hown, hts⟩ hT hZ hA hP hD hS (c_J6_bitCount_0f7a4 l D cI cZ cN aK aV n_alive _ rfl) ⟨callB_of 1 hts (k_good u_409) rfl rfl rfl (hu _ u_53) (hu _ u_417) (by decide +kernel) ⟨Nat.le_of_ble_eq_true rfl, Nat.le_of_ble_eq_true rfl⟩, hu _ u_408⟩ rfl hl.1 rfl (Nat.le_of_ble_eq_true rfl) dX5_told_75 (fun H locs hP hD hS => ?_)
    have hq := Option.some.inj h
    clear h
    subst hq
    exact k_retI hx hb hr hlocks hP hD hS dX5_told_78
  have h := (if_neg sw_5).symm.trans h
  by_cases sw_6 : p1 = (3 : Int32)
  · have h := (if_pos sw_6).symm.trans h
    refine lv_tableIn (tgt := 79) hx hb dX5_told_1 (by rw [sw_6]; decide) (by rw [sw_6]; decide) (by rw [sw_6]; rfl) (by decide) ?_
    refine lv_aload_n hx hb dX5_told_79 rfl (lv_at hl 0 rfl) ?_
    refine va_get (D := D) (ci := 5) (v := .ref qn) (C := RX5) (T := TX5) (N := 12) hx hb hu k_iX5 hown hK hP 1 rfl rfl 0 (by decide) (hu _ u_283) (fun _ h9 => h9) rfl dX5_told_80 ?_
    refine va_get (D := D) (ci := 1) (v := .int n_inMap) (C := RX1) (T := TX1) (N := 8) hx hb hu k_iX1 hown hK hP 2 rfl rfl 4 (by decide) (hu _ u_89) (fun _ h9 => h9) rfl dX5_told_83 ?_
    refine k_call0 (As := [.int n_inMap]) (rest := []) ⟨hx, hb, hml, hown, hts⟩ hT hZ hA hP hD hS (c_J6_bitCount_0f7a4 l D cI cZ cN aK aV n_inMap _ rfl) ⟨callB_of 1 hts (k_good u_409) rfl rfl rfl (hu _ u_53) (hu _ u_417) (by decide +kernel) ⟨Nat.le_of_ble_eq_true rfl, Nat.le_of_ble_eq_true rfl⟩, hu _ u_408⟩ rfl hl.1 rfl (Nat.le_of_ble_eq_true rfl) dX5_told_86 (fun H locs hP hD hS => ?_)
    have hq := Option.some.inj h
    clear h
    subst hq
    exact k_retI hx hb hr hlocks hP hD hS dX5_told_89
  have h := (if_neg sw_6).symm.trans h
  by_cases sw_7 : p1 = (4 : Int32)
  · have h := (if_pos sw_7).symm.trans h
    refine lv_tableIn (tgt := 90) hx hb dX5_told_1 (by rw [sw_7]; decide) (by rw [sw_7]; decide) (by rw [sw_7]; rfl) (by decide) ?_
    refine lv_aload_n hx hb dX5_told_90 rfl (lv_at hl 0 rfl) ?_
    refine va_get (D := D) (ci := 5) (v := .ref qn) (C := RX5) (T := TX5) (N := 12) hx hb hu k_iX5 hown hK hP 1 rfl rfl 0 (by decide) (hu _ u_283) (fun _ h9 => h9) rfl dX5_told_91 ?_
    refine k_callVIr (qb := 0) [2] (As := []) (rest := []) ⟨hx, hb, hml, hown, hts⟩ hT hZ hA hP hD hS (c_X1_countWrongInMap l D cI cZ cN aK aV qn qn_low qn_high qn_length n_nodes n_links n_room n_alive n_inMap _ rfl) ⟨callB_of 0 hts (k_good u_406) rfl rfl rfl (hu _ u_46) (hu _ u_403) (by decide +kernel) ⟨Nat.le_of_ble_eq_true rfl, Nat.le_of_ble_eq_true rfl⟩, hu _ u_404, hu _ u_405⟩ rfl rfl rfl (by decide) rfl hl.1 rfl (Nat.le_of_ble_eq_true rfl) dX5_told_94 (fun H locs hP hD hS => ?_)
    have hq := Option.some.inj h
    clear h
    subst hq
    exact k_retI hx hb hr hlocks hP hD hS dX5_told_97
  have h := (if_neg sw_7).symm.trans h
  by_cases sw_8 : p1 = (5 : Int32)
  · have h := (if_pos sw_8).symm.trans h
    refine lv_tableIn (tgt := 98) hx hb dX5_told_1 (by rw [sw_8]; decide) (by rw [sw_8]; decide) (by rw [sw_8]; rfl) (by decide) ?_
    refine lv_aload_n hx hb dX5_told_98 rfl (lv_at hl 0 rfl) ?_
    refine va_get (D := D) (ci := 5) (v := .ref qn) (C := RX5) (T := TX5) (N := 12) hx hb hu k_iX5 hown hK hP 1 rfl rfl 0 (by decide) (hu _ u_283) (fun _ h9 => h9) rfl dX5_told_99 ?_
    refine va_get (D := D) (ci := 1) (v := .int n_room) (C := RX1) (T := TX1) (N := 8) hx hb hu k_iX1 hown hK hP 2 rfl rfl 2 (by decide) (hu _ u_81) (fun _ h9 => h9) rfl dX5_told_102 ?_
    have hq := Option.some.inj h
    clear h
    subst hq
    exact k_retI hx hb hr hlocks hP hD hS dX5_told_105
  have h := (if_neg sw_8).symm.trans h
  by_cases sw_9 : p1 = (6 : Int32)
  · have h := (if_pos sw_9).symm.trans h
    refine lv_tableIn (tgt := 106) hx hb dX5_told_1 (by rw [sw_9]; decide) (by rw [sw_9]; decide) (by rw [sw_9]; rfl) (by decide) ?_
    refine lv_aload_n hx hb dX5_told_106 rfl (lv_at hl 0 rfl) ?_
    refine va_get (D := D) (ci := 5) (v := .ref qz) (C := RX5) (T := TX5) (N := 12) hx hb hu k_iX5 hown hK hP 1 rfl rfl 11 (by decide) (hu _ u_294) (fun _ h9 => h9) rfl dX5_told_107 ?_
    refine va_get (D := D) (ci := 3) (v := .int z_size) (C := RX3) (T := TX3) (N := 9) hx hb hu k_iX3 hown hK hP 0 rfl rfl 1 (by decide) (hu _ u_255) (fun _ h9 => h9) rfl dX5_told_110 ?_
    have hq := Option.some.inj h
    clear h
    subst hq
    exact k_retI hx hb hr hlocks hP hD hS dX5_told_113
  have h := (if_neg sw_9).symm.trans h
  by_cases sw_10 : p1 = (7 : Int32)
  · have h := (if_pos sw_10).symm.trans h
    refine lv_tableIn (tgt := 114) hx hb dX5_told_1 (by rw [sw_10]; decide) (by rw [sw_10]; decide) (by rw [sw_10]; rfl) (by decide) ?_
    refine lv_aload_n hx hb dX5_told_114 rfl (lv_at hl 0 rfl) ?_
    refine va_get (D := D) (ci := 5) (v := .int x_undoable) (C := RX5) (T := TX5) (N := 12) hx hb hu k_iX5 hown hK hP 1 rfl rfl 3 (by decide) (hu _ u_286) (fun _ h9 => h9) rfl dX5_told_115 ?_
    have hq := Option.some.inj h
    clear h
    subst hq
    exact k_retI hx hb hr hlocks hP hD hS dX5_told_118
  have h := (if_neg sw_10).symm.trans h
  by_cases sw_11 : p1 = (8 : Int32)
  · have h := (if_pos sw_11).symm.trans h
    refine lv_tableIn (tgt := 119) hx hb dX5_told_1 (by rw [sw_11]; decide) (by rw [sw_11]; decide) (by rw [sw_11]; rfl) (by decide) ?_
    refine lv_aload_n hx hb dX5_told_119 rfl (lv_at hl 0 rfl) ?_
    refine va_get (D := D) (ci := 5) (v := .ref qn) (C := RX5) (T := TX5) (N := 12) hx hb hu k_iX5 hown hK hP 1 rfl rfl 0 (by decide) (hu _ u_283) (fun _ h9 => h9) rfl dX5_told_120 ?_
    obtain ⟨r_1, hc_2, h⟩ := ob_bind h
    refine k_callVIr (qb := 0) [2, 3, 4] (As := []) (rest := []) ⟨hx, hb, hml, hown, hts⟩ hT hZ hA hP hD hS (c_X1_countParts l D cI cZ cN aK aV qn qn_low qn_high qn_length n_nodes n_links n_room n_alive n_inMap n_low n_high r_1 hc_2) ⟨callB_of 0 hts (k_good u_433) rfl rfl rfl (hu _ u_46) (hu _ u_430) (by decide +kernel) ⟨Nat.le_of_ble_eq_true rfl, Nat.le_of_ble_eq_true rfl⟩, hu _ u_431, hu _ u_432⟩ rfl rfl rfl (by decide) rfl hl.1 rfl (Nat.le_of_ble_eq_true rfl) dX5_told_123 (fun H locs hP hD hS => ?_)
    have hq := Option.some.inj h
    clear h
    subst hq
    exact k_retI hx hb hr hlocks hP hD hS dX5_told_126
  have h := (if_neg sw_11).symm.trans h
  refine lv_tableOut (tgt := 127) hx hb dX5_told_1 (k_swo 0 8 (by decide) (by decide) (by intro j h1 h2; rcases (show j = 0 ∨ j = 1 ∨ j = 2 ∨ j = 3 ∨ j = 4 ∨ j = 5 ∨ j = 6 ∨ j = 7 ∨ j = 8 by omega) with rfl | rfl | rfl | rfl | rfl | rfl | rfl | rfl | rfl <;> assumption)) (by decide) ?_
  refine lv_iconst (v := (-1 : Int32)) hx hb dX5_told_127 (by decide) ?_
  have hq := Option.some.inj h
  clear h
  subst hq
  exact k_retI hx hb hr hlocks hP hD hS dX5_told_128
def f_X5_link (p1 : Int32) (p2 : Int32) (n_nodes : Int32) (n_links : Int32) (n_alive : Int32) (n_inMap : Int32) (n_low : (Nat → Int32)) (n_high : (Nat → Int32)) (n_length : (Nat → Int32)) : Option (Int32) :=
  if (f_X1_hasLink p1 n_links) = (0 : Int32) then
    some ((-1 : Int32))
  else
    if p2 = (0 : Int32) then
      if inb p1 18 = true then
      some ((n_low (Int32.toNatClampNeg p1)))
      else none
    else
    if p2 = (1 : Int32) then
      if inb p1 18 = true then
      some ((n_high (Int32.toNatClampNeg p1)))
      else none
    else
    if p2 = (2 : Int32) then
      if inb p1 18 = true then
      some ((n_length (Int32.toNatClampNeg p1)))
      else none
    else
    if p2 = (3 : Int32) then
      some ((f_X5_bit n_alive p1))
    else
    if p2 = (4 : Int32) then
      some ((f_X5_bit n_inMap p1))
    else
    if p2 = (5 : Int32) then
      (f_X1_pairsJoined n_alive n_nodes n_links n_low n_high).bind fun r_5 =>
      (f_X1_pairsJoined (f_X5_withBit n_alive p1 (0 : Int32)) n_nodes n_links n_low n_high).bind fun r_7 =>
      some ((r_5 - r_7))
    else
    some ((-1 : Int32))
set_option maxHeartbeats 4000000 in
set_option maxRecDepth 100000 in
theorem c_X5_link (l : Launch) (D : va_G) (cI cZ cN : ClassId) (aK aV : Nat → Nat)  (qx : Nat) (qx_history : Nat) (qx_images : Nat) (qx_kept : Nat) (qn : Nat) (qn_low : Nat) (qn_high : Nat) (qn_length : Nat) (qd : Nat) (qy : Nat) (qt : Nat) (qv : Nat) (qz : Nat) (x_undoable : Int32) (x_letterSent : Int32) (x_letterFits : Int32) (n_nodes : Int32) (n_links : Int32) (n_room : Int32) (n_alive : Int32) (n_inMap : Int32) (n_low : (Nat → Int32)) (n_high : (Nat → Int32)) (n_length : (Nat → Int32)) (p1 p2 : Int32) (r : Int32) (h : f_X5_link p1 p2 n_nodes n_links n_alive n_inMap n_low n_high n_length = some r) : CtI l D cI cZ cN aK aV yX5_link (k_W yX5_link cX5_link 3 (some .int)) { frames := 3, cells := 0, slots := 0, locals := 70 } [.ref qx, .int p1, .int p2] [(qx, .inr (5, [.ref qn, .ref qd, .ref qx_history, .int x_undoable, .ref qx_images, .ref qx_kept, .ref qy, .ref qt, .int x_letterSent, .int x_letterFits, .ref qv, .ref qz])), (qn, .inr (1, [.int n_nodes, .int n_links, .int n_room, .int n_alive, .int n_inMap, .ref qn_low, .ref qn_high, .ref qn_length])), (qn_low, .inl (cI, 18, .inl n_low)), (qn_high, .inl (cI, 18, .inl n_high)), (qn_length, .inl (cI, 18, .inl n_length))] r [(qx, .inr (5, [.ref qn, .ref qd, .ref qx_history, .int x_undoable, .ref qx_images, .ref qx_kept, .ref qy, .ref qt, .int x_letterSent, .int x_letterFits, .ref qv, .ref qz])), (qn, .inr (1, [.int n_nodes, .int n_links, .int n_room, .int n_alive, .int n_inMap, .ref qn_low, .ref qn_high, .ref qn_length])), (qn_low, .inl (cI, 18, .inl n_low)), (qn_high, .inl (cI, 18, .inl n_high)), (qn_length, .inl (cI, 18, .inl n_length))] := by
  refine k_startI (by decide) (Nat.le_of_ble_eq_true rfl) ?_
  intro p e s m below meth c A ls hx hb hr hml hown hts hlocks hT hZ hA hP hD hS hl
  have hK := hT.1
  have hu : ∀ w ∈ k_U, w.before ([.ref qx, .int p1, .int p2] : List Value).toArray s = true := fun w h => hts w (List.mem_cons_of_mem _ h)
  have hown : s.vm.findClass RX5 = some m.cls := hown
  have hl : lv_has ls 3 [(0, .ref qx), (1, .int p1), (2, .int p2)] := hl
  unfold f_X5_link at h
  refine lv_aload_n hx hb dX5_link_0 rfl (lv_at hl 0 rfl) ?_
  refine va_get (D := D) (ci := 5) (v := .ref qn) (C := RX5) (T := TX5) (N := 12) hx hb hu k_iX5 hown hK hP 0 rfl rfl 0 (by decide) (hu _ u_283) (fun _ h9 => h9) rfl dX5_link_1 ?_
  refine lv_iload_n hx hb dX5_link_4 rfl (lv_at hl 1 rfl) ?_
  refine k_callVIr (qb := 0) [1] (As := [.int p1]) (rest := []) ⟨hx, hb, hml, hown, hts⟩ hT hZ hA hP hD hS (c_X1_hasLink l D cI cZ cN aK aV qn qn_low qn_high qn_length n_nodes n_links n_room n_alive n_inMap p1 _ rfl) ⟨callB_of 1 hts (k_good u_376) rfl rfl rfl (hu _ u_46) (hu _ u_373) (by decide +kernel) ⟨Nat.le_of_ble_eq_true rfl, Nat.le_of_ble_eq_true rfl⟩, hu _ u_374, hu _ u_375⟩ rfl rfl rfl (by decide) rfl hl.1 rfl (Nat.le_of_ble_eq_true rfl) dX5_link_5 (fun H locs hP hD hS => ?_)
  refine lv_if_ne (tgt := 13) hx hb dX5_link_8 (by decide) (fun cc_1 => ?_) (fun cc_1 => ?_)
  · have h := (if_neg cc_1).symm.trans h
    refine lv_iload_n hx hb dX5_link_13 rfl (lv_at hl 2 rfl) ?_
    by_cases sw_9 : p2 = (0 : Int32)
    · have h := (if_pos sw_9).symm.trans h
      refine lv_tableIn (tgt := 52) hx hb dX5_link_14 (by rw [sw_9]; decide) (by rw [sw_9]; decide) (by rw [sw_9]; rfl) (by decide) ?_
      refine lv_aload_n hx hb dX5_link_52 rfl (lv_at hl 0 rfl) ?_
      refine va_get (D := D) (ci := 5) (v := .ref qn) (C := RX5) (T := TX5) (N := 12) hx hb hu k_iX5 hown hK hP 0 rfl rfl 0 (by decide) (hu _ u_283) (fun _ h9 => h9) rfl dX5_link_53 ?_
      refine va_get (D := D) (ci := 1) (v := .ref qn_low) (C := RX1) (T := TX1) (N := 8) hx hb hu k_iX1 hown hK hP 1 rfl rfl 5 (by decide) (hu _ u_94) (fun _ h9 => h9) rfl dX5_link_56 ?_
      refine lv_iload_n hx hb dX5_link_59 rfl (lv_at hl 1 rfl) ?_
      obtain ⟨hin_2, h⟩ := ob_if h
      have hin_2 := inb_in hin_2
      refine va_iald (D := D) hx hb hK hP 2 0 rfl rfl hin_2 dX5_link_60 ?_
      have hq := Option.some.inj h
      clear h
      subst hq
      exact k_retI hx hb hr hlocks hP hD hS dX5_link_61
    have h := (if_neg sw_9).symm.trans h
    by_cases sw_10 : p2 = (1 : Int32)
    · have h := (if_pos sw_10).symm.trans h
      refine lv_tableIn (tgt := 62) hx hb dX5_link_14 (by rw [sw_10]; decide) (by rw [sw_10]; decide) (by rw [sw_10]; rfl) (by decide) ?_
      refine lv_aload_n hx hb dX5_link_62 rfl (lv_at hl 0 rfl) ?_
      refine va_get (D := D) (ci := 5) (v := .ref qn) (C := RX5) (T := TX5) (N := 12) hx hb hu k_iX5 hown hK hP 0 rfl rfl 0 (by decide) (hu _ u_283) (fun _ h9 => h9) rfl dX5_link_63 ?_
      refine va_get (D := D) (ci := 1) (v := .ref qn_high) (C := RX1) (T := TX1) (N := 8) hx hb hu k_iX1 hown hK hP 1 rfl rfl 6 (by decide) (hu _ u_98) (fun _ h9 => h9) rfl dX5_link_66 ?_
      refine lv_iload_n hx hb dX5_link_69 rfl (lv_at hl 1 rfl) ?_
      obtain ⟨hin_3, h⟩ := ob_if h
      have hin_3 := inb_in hin_3
      refine va_iald (D := D) hx hb hK hP 3 0 rfl rfl hin_3 dX5_link_70 ?_
      have hq := Option.some.inj h
      clear h
      subst hq
      exact k_retI hx hb hr hlocks hP hD hS dX5_link_71
    have h := (if_neg sw_10).symm.trans h
    by_cases sw_11 : p2 = (2 : Int32)
    · have h := (if_pos sw_11).symm.trans h
      refine lv_tableIn (tgt := 72) hx hb dX5_link_14 (by rw [sw_11]; decide) (by rw [sw_11]; decide) (by rw [sw_11]; rfl) (by decide) ?_
      refine lv_aload_n hx hb dX5_link_72 rfl (lv_at hl 0 rfl) ?_
      refine va_get (D := D) (ci := 5) (v := .ref qn) (C := RX5) (T := TX5) (N := 12) hx hb hu k_iX5 hown hK hP 0 rfl rfl 0 (by decide) (hu _ u_283) (fun _ h9 => h9) rfl dX5_link_73 ?_
      refine va_get (D := D) (ci := 1) (v := .ref qn_length) (C := RX1) (T := TX1) (N := 8) hx hb hu k_iX1 hown hK hP 1 rfl rfl 7 (by decide) (hu _ u_102) (fun _ h9 => h9) rfl dX5_link_76 ?_
      refine lv_iload_n hx hb dX5_link_79 rfl (lv_at hl 1 rfl) ?_
      obtain ⟨hin_4, h⟩ := ob_if h
      have hin_4 := inb_in hin_4
      refine va_iald (D := D) hx hb hK hP 4 0 rfl rfl hin_4 dX5_link_80 ?_
      have hq := Option.some.inj h
      clear h
      subst hq
      exact k_retI hx hb hr hlocks hP hD hS dX5_link_81
    have h := (if_neg sw_11).symm.trans h
    by_cases sw_12 : p2 = (3 : Int32)
    · have h := (if_pos sw_12).symm.trans h
      refine lv_tableIn (tgt := 82) hx hb dX5_link_14 (by rw [sw_12]; decide) (by rw [sw_12]; decide) (by rw [sw_12]; rfl) (by decide) ?_
      refine lv_aload_n hx hb dX5_link_82 rfl (lv_at hl 0 rfl) ?_
      refine va_get (D := D) (ci := 5) (v := .ref qn) (C := RX5) (T := TX5) (N := 12) hx hb hu k_iX5 hown hK hP 0 rfl rfl 0 (by decide) (hu _ u_283) (fun _ h9 => h9) rfl dX5_link_83 ?_
      refine va_get (D := D) (ci := 1) (v := .int n_alive) (C := RX1) (T := TX1) (N := 8) hx hb hu k_iX1 hown hK hP 1 rfl rfl 3 (by decide) (hu _ u_85) (fun _ h9 => h9) rfl dX5_link_86 ?_
      refine lv_iload_n hx hb dX5_link_89 rfl (lv_at hl 1 rfl) ?_
      refine k_call0 (As := [.int n_alive, .int p1]) (rest := []) ⟨hx, hb, hml, hown, hts⟩ hT hZ hA hP hD hS (c_X5_bit l D cI cZ cN aK aV n_alive p1 _ rfl) ⟨callB_of 2 hts (k_good u_393) rfl rfl rfl (hu _ u_45) (hu _ u_391) (by decide +kernel) ⟨Nat.le_of_ble_eq_true rfl, Nat.le_of_ble_eq_true rfl⟩, hu _ u_392⟩ rfl hl.1 rfl (Nat.le_of_ble_eq_true rfl) dX5_link_90 (fun H locs hP hD hS => ?_)
      have hq := Option.some.inj h
      clear h
      subst hq
      exact k_retI hx hb hr hlocks hP hD hS dX5_link_93
    have h := (if_neg sw_12).symm.trans h
    by_cases sw_13 : p2 = (4 : Int32)
    · have h := (if_pos sw_13).symm.trans h
      refine lv_tableIn (tgt := 94) hx hb dX5_link_14 (by rw [sw_13]; decide) (by rw [sw_13]; decide) (by rw [sw_13]; rfl) (by decide) ?_
      refine lv_aload_n hx hb dX5_link_94 rfl (lv_at hl 0 rfl) ?_
      refine va_get (D := D) (ci := 5) (v := .ref qn) (C := RX5) (T := TX5) (N := 12) hx hb hu k_iX5 hown hK hP 0 rfl rfl 0 (by decide) (hu _ u_283) (fun _ h9 => h9) rfl dX5_link_95 ?_
      refine va_get (D := D) (ci := 1) (v := .int n_inMap) (C := RX1) (T := TX1) (N := 8) hx hb hu k_iX1 hown hK hP 1 rfl rfl 4 (by decide) (hu _ u_89) (fun _ h9 => h9) rfl dX5_link_98 ?_
      refine lv_iload_n hx hb dX5_link_101 rfl (lv_at hl 1 rfl) ?_
      refine k_call0 (As := [.int n_inMap, .int p1]) (rest := []) ⟨hx, hb, hml, hown, hts⟩ hT hZ hA hP hD hS (c_X5_bit l D cI cZ cN aK aV n_inMap p1 _ rfl) ⟨callB_of 2 hts (k_good u_393) rfl rfl rfl (hu _ u_45) (hu _ u_391) (by decide +kernel) ⟨Nat.le_of_ble_eq_true rfl, Nat.le_of_ble_eq_true rfl⟩, hu _ u_392⟩ rfl hl.1 rfl (Nat.le_of_ble_eq_true rfl) dX5_link_102 (fun H locs hP hD hS => ?_)
      have hq := Option.some.inj h
      clear h
      subst hq
      exact k_retI hx hb hr hlocks hP hD hS dX5_link_105
    have h := (if_neg sw_13).symm.trans h
    by_cases sw_14 : p2 = (5 : Int32)
    · have h := (if_pos sw_14).symm.trans h
      refine lv_tableIn (tgt := 106) hx hb dX5_link_14 (by rw [sw_14]; decide) (by rw [sw_14]; decide) (by rw [sw_14]; rfl) (by decide) ?_
      refine lv_aload_n hx hb dX5_link_106 rfl (lv_at hl 0 rfl) ?_
      refine va_get (D := D) (ci := 5) (v := .ref qn) (C := RX5) (T := TX5) (N := 12) hx hb hu k_iX5 hown hK hP 0 rfl rfl 0 (by decide) (hu _ u_283) (fun _ h9 => h9) rfl dX5_link_107 ?_
      refine lv_aload_n hx hb dX5_link_110 rfl (lv_at hl 0 rfl) ?_
      refine va_get (D := D) (ci := 5) (v := .ref qn) (C := RX5) (T := TX5) (N := 12) hx hb hu k_iX5 hown hK hP 0 rfl rfl 0 (by decide) (hu _ u_283) (fun _ h9 => h9) rfl dX5_link_111 ?_
      refine va_get (D := D) (ci := 1) (v := .int n_alive) (C := RX1) (T := TX1) (N := 8) hx hb hu k_iX1 hown hK hP 1 rfl rfl 3 (by decide) (hu _ u_85) (fun _ h9 => h9) rfl dX5_link_114 ?_
      obtain ⟨r_5, hc_6, h⟩ := ob_bind h
      refine k_callVIr (qb := 0) [1, 2, 3] (As := [.int n_alive]) (rest := []) ⟨hx, hb, hml, hown, hts⟩ hT hZ hA hP hD hS (c_X1_pairsJoined l D cI cZ cN aK aV qn qn_low qn_high qn_length n_nodes n_links n_room n_alive n_inMap n_low n_high n_alive r_5 hc_6) ⟨callB_of 1 hts (k_good u_446) rfl rfl rfl (hu _ u_46) (hu _ u_443) (by decide +kernel) ⟨Nat.le_of_ble_eq_true rfl, Nat.le_of_ble_eq_true rfl⟩, hu _ u_444, hu _ u_445⟩ rfl rfl rfl (by decide) rfl hl.1 rfl (Nat.le_of_ble_eq_true rfl) dX5_link_117 (fun H locs hP hD hS => ?_)
      refine lv_aload_n hx hb dX5_link_120 rfl (lv_at hl 0 rfl) ?_
      refine va_get (D := D) (ci := 5) (v := .ref qn) (C := RX5) (T := TX5) (N := 12) hx hb hu k_iX5 hown hK hP 0 rfl rfl 0 (by decide) (hu _ u_283) (fun _ h9 => h9) rfl dX5_link_121 ?_
      refine lv_aload_n hx hb dX5_link_124 rfl (lv_at hl 0 rfl) ?_
      refine va_get (D := D) (ci := 5) (v := .ref qn) (C := RX5) (T := TX5) (N := 12) hx hb hu k_iX5 hown hK hP 0 rfl rfl 0 (by decide) (hu _ u_283) (fun _ h9 => h9) rfl dX5_link_125 ?_
      refine va_get (D := D) (ci := 1) (v := .int n_alive) (C := RX1) (T := TX1) (N := 8) hx hb hu k_iX1 hown hK hP 1 rfl rfl 3 (by decide) (hu _ u_85) (fun _ h9 => h9) rfl dX5_link_128 ?_
      refine lv_iload_n hx hb dX5_link_131 rfl (lv_at hl 1 rfl) ?_
      refine lv_iconst (v := (0 : Int32)) hx hb dX5_link_132 (by decide) ?_
      refine k_call0 (As := [.int n_alive, .int p1, .int (0 : Int32)]) (rest := [.ref qn, .int r_5]) ⟨hx, hb, hml, hown, hts⟩ hT hZ hA hP hD hS (c_X5_withBit l D cI cZ cN aK aV n_alive p1 (0 : Int32) _ rfl) ⟨callB_of 3 hts (k_good u_368) rfl rfl rfl (hu _ u_45) (hu _ u_394) (by decide +kernel) ⟨Nat.le_of_ble_eq_true rfl, Nat.le_of_ble_eq_true rfl⟩, hu _ u_367⟩ rfl hl.1 rfl (Nat.le_of_ble_eq_true rfl) dX5_link_133 (fun H locs hP hD hS => ?_)
      obtain ⟨r_7, hc_8, h⟩ := ob_bind h
      refine k_callVIr (qb := 0) [1, 2, 3] (As := [.int (f_X5_withBit n_alive p1 (0 : Int32))]) (rest := [.int r_5]) ⟨hx, hb, hml, hown, hts⟩ hT hZ hA hP hD hS (c_X1_pairsJoined l D cI cZ cN aK aV qn qn_low qn_high qn_length n_nodes n_links n_room n_alive n_inMap n_low n_high (f_X5_withBit n_alive p1 (0 : Int32)) r_7 hc_8) ⟨callB_of 1 hts (k_good u_446) rfl rfl rfl (hu _ u_46) (hu _ u_443) (by decide +kernel) ⟨Nat.le_of_ble_eq_true rfl, Nat.le_of_ble_eq_true rfl⟩, hu _ u_444, hu _ u_445⟩ rfl rfl rfl (by decide) rfl hl.1 rfl (Nat.le_of_ble_eq_true rfl) dX5_link_136 (fun H locs hP hD hS => ?_)
      refine lv_isub hx hb dX5_link_139 ?_
      have hq := Option.some.inj h
      clear h
      subst hq
      exact k_retI hx hb hr hlocks hP hD hS dX5_link_140
    have h := (if_neg sw_14).symm.trans h
    refine lv_tableOut (tgt := 141) hx hb dX5_link_14 (k_swo 0 5 (by decide) (by decide) (by intro j h1 h2; rcases (show j = 0 ∨ j = 1 ∨ j = 2 ∨ j = 3 ∨ j = 4 ∨ j = 5 by omega) with rfl | rfl | rfl | rfl | rfl | rfl <;> assumption)) (by decide) ?_
    refine lv_iconst (v := (-1 : Int32)) hx hb dX5_link_141 (by decide) ?_
    have hq := Option.some.inj h
    clear h
    subst hq
    exact k_retI hx hb hr hlocks hP hD hS dX5_link_142
  · have h := (if_pos cc_1).symm.trans h
    refine lv_iconst (v := (-1 : Int32)) hx hb dX5_link_11 (by decide) ?_
    have hq := Option.some.inj h
    clear h
    subst hq
    exact k_retI hx hb hr hlocks hP hD hS dX5_link_12
def f_X5_between (p1 : Int32) (p2 : Int32) (n_nodes : Int32) (n_links : Int32) (n_low : (Nat → Int32)) (n_high : (Nat → Int32)) : Option (Int32) :=
  if (f_X1_hasNode p1 n_nodes) = (0 : Int32) then
    some ((-1 : Int32))
  else
    if (f_X1_hasNode p2 n_nodes) = (0 : Int32) then
      some ((-1 : Int32))
    else
      if p1 = p2 then
        some ((-1 : Int32))
      else
        (f_X1_findLink p1 p2 n_links n_low n_high).bind fun r_4 =>
        if r_4 = (-1 : Int32) then
          some ((-9 : Int32))
        else
          some (r_4)
set_option maxHeartbeats 4000000 in
set_option maxRecDepth 100000 in
theorem c_X5_between (l : Launch) (D : va_G) (cI cZ cN : ClassId) (aK aV : Nat → Nat)  (qx : Nat) (qx_history : Nat) (qx_images : Nat) (qx_kept : Nat) (qn : Nat) (qn_low : Nat) (qn_high : Nat) (qn_length : Nat) (qd : Nat) (qy : Nat) (qt : Nat) (qv : Nat) (qz : Nat) (x_undoable : Int32) (x_letterSent : Int32) (x_letterFits : Int32) (n_nodes : Int32) (n_links : Int32) (n_room : Int32) (n_alive : Int32) (n_inMap : Int32) (n_low : (Nat → Int32)) (n_high : (Nat → Int32)) (p1 p2 : Int32) (r : Int32) (h : f_X5_between p1 p2 n_nodes n_links n_low n_high = some r) : CtI l D cI cZ cN aK aV yX5_between (k_W yX5_between cX5_between 4 (some .int)) { frames := 2, cells := 0, slots := 0, locals := 37 } [.ref qx, .int p1, .int p2] [(qx, .inr (5, [.ref qn, .ref qd, .ref qx_history, .int x_undoable, .ref qx_images, .ref qx_kept, .ref qy, .ref qt, .int x_letterSent, .int x_letterFits, .ref qv, .ref qz])), (qn, .inr (1, [.int n_nodes, .int n_links, .int n_room, .int n_alive, .int n_inMap, .ref qn_low, .ref qn_high, .ref qn_length])), (qn_low, .inl (cI, 18, .inl n_low)), (qn_high, .inl (cI, 18, .inl n_high))] r [(qx, .inr (5, [.ref qn, .ref qd, .ref qx_history, .int x_undoable, .ref qx_images, .ref qx_kept, .ref qy, .ref qt, .int x_letterSent, .int x_letterFits, .ref qv, .ref qz])), (qn, .inr (1, [.int n_nodes, .int n_links, .int n_room, .int n_alive, .int n_inMap, .ref qn_low, .ref qn_high, .ref qn_length])), (qn_low, .inl (cI, 18, .inl n_low)), (qn_high, .inl (cI, 18, .inl n_high))] := by
  refine k_startI (by decide) (Nat.le_of_ble_eq_true rfl) ?_
  intro p e s m below meth c A ls hx hb hr hml hown hts hlocks hT hZ hA hP hD hS hl
  have hK := hT.1
  have hu : ∀ w ∈ k_U, w.before ([.ref qx, .int p1, .int p2] : List Value).toArray s = true := fun w h => hts w (List.mem_cons_of_mem _ h)
  have hown : s.vm.findClass RX5 = some m.cls := hown
  have hl : lv_has ls 4 [(0, .ref qx), (1, .int p1), (2, .int p2)] := hl
  unfold f_X5_between at h
  refine lv_aload_n hx hb dX5_between_0 rfl (lv_at hl 0 rfl) ?_
  refine va_get (D := D) (ci := 5) (v := .ref qn) (C := RX5) (T := TX5) (N := 12) hx hb hu k_iX5 hown hK hP 0 rfl rfl 0 (by decide) (hu _ u_283) (fun _ h9 => h9) rfl dX5_between_1 ?_
  refine lv_iload_n hx hb dX5_between_4 rfl (lv_at hl 1 rfl) ?_
  refine k_callVIr (qb := 0) [1] (As := [.int p1]) (rest := []) ⟨hx, hb, hml, hown, hts⟩ hT hZ hA hP hD hS (c_X1_hasNode l D cI cZ cN aK aV qn qn_low qn_high qn_length n_nodes n_links n_room n_alive n_inMap p1 _ rfl) ⟨callB_of 1 hts (k_good u_351) rfl rfl rfl (hu _ u_46) (hu _ u_451) (by decide +kernel) ⟨Nat.le_of_ble_eq_true rfl, Nat.le_of_ble_eq_true rfl⟩, hu _ u_349, hu _ u_350⟩ rfl rfl rfl (by decide) rfl hl.1 rfl (Nat.le_of_ble_eq_true rfl) dX5_between_5 (fun H locs hP hD hS => ?_)
  refine lv_if_eq (tgt := 27) hx hb dX5_between_8 (by decide) (fun cc_1 => ?_) (fun cc_1 => ?_)
  · have h := (if_pos cc_1).symm.trans h
    refine lv_iconst (v := (-1 : Int32)) hx hb dX5_between_27 (by decide) ?_
    have hq := Option.some.inj h
    clear h
    subst hq
    exact k_retI hx hb hr hlocks hP hD hS dX5_between_28
  · have h := (if_neg cc_1).symm.trans h
    refine lv_aload_n hx hb dX5_between_11 rfl (lv_at hl 0 rfl) ?_
    refine va_get (D := D) (ci := 5) (v := .ref qn) (C := RX5) (T := TX5) (N := 12) hx hb hu k_iX5 hown hK hP 0 rfl rfl 0 (by decide) (hu _ u_283) (fun _ h9 => h9) rfl dX5_between_12 ?_
    refine lv_iload_n hx hb dX5_between_15 rfl (lv_at hl 2 rfl) ?_
    refine k_callVIr (qb := 0) [1] (As := [.int p2]) (rest := []) ⟨hx, hb, hml, hown, hts⟩ hT hZ hA hP hD hS (c_X1_hasNode l D cI cZ cN aK aV qn qn_low qn_high qn_length n_nodes n_links n_room n_alive n_inMap p2 _ rfl) ⟨callB_of 1 hts (k_good u_351) rfl rfl rfl (hu _ u_46) (hu _ u_451) (by decide +kernel) ⟨Nat.le_of_ble_eq_true rfl, Nat.le_of_ble_eq_true rfl⟩, hu _ u_349, hu _ u_350⟩ rfl rfl rfl (by decide) rfl hl.1 rfl (Nat.le_of_ble_eq_true rfl) dX5_between_16 (fun H locs hP hD hS => ?_)
    refine lv_if_eq (tgt := 27) hx hb dX5_between_19 (by decide) (fun cc_2 => ?_) (fun cc_2 => ?_)
    · have h := (if_pos cc_2).symm.trans h
      refine lv_iconst (v := (-1 : Int32)) hx hb dX5_between_27 (by decide) ?_
      have hq := Option.some.inj h
      clear h
      subst hq
      exact k_retI hx hb hr hlocks hP hD hS dX5_between_28
    · have h := (if_neg cc_2).symm.trans h
      refine lv_iload_n hx hb dX5_between_22 rfl (lv_at hl 1 rfl) ?_
      refine lv_iload_n hx hb dX5_between_23 rfl (lv_at hl 2 rfl) ?_
      refine lv_icmp_ne (tgt := 29) hx hb dX5_between_24 (by decide) (fun cc_3 => ?_) (fun cc_3 => ?_)
      · have h := (if_neg cc_3).symm.trans h
        refine lv_aload_n hx hb dX5_between_29 rfl (lv_at hl 0 rfl) ?_
        refine va_get (D := D) (ci := 5) (v := .ref qn) (C := RX5) (T := TX5) (N := 12) hx hb hu k_iX5 hown hK hP 0 rfl rfl 0 (by decide) (hu _ u_283) (fun _ h9 => h9) rfl dX5_between_30 ?_
        refine lv_iload_n hx hb dX5_between_33 rfl (lv_at hl 1 rfl) ?_
        refine lv_iload_n hx hb dX5_between_34 rfl (lv_at hl 2 rfl) ?_
        obtain ⟨r_4, hc_5, h⟩ := ob_bind h
        refine k_callVIr (qb := 0) [1, 2, 3] (As := [.int p1, .int p2]) (rest := []) ⟨hx, hb, hml, hown, hts⟩ hT hZ hA hP hD hS (c_X1_findLink l D cI cZ cN aK aV qn qn_low qn_high qn_length n_nodes n_links n_room n_alive n_inMap n_low n_high p1 p2 r_4 hc_5) ⟨callB_of 2 hts (k_good u_355) rfl rfl rfl (hu _ u_46) (hu _ u_452) (by decide +kernel) ⟨Nat.le_of_ble_eq_true rfl, Nat.le_of_ble_eq_true rfl⟩, hu _ u_353, hu _ u_354⟩ rfl rfl rfl (by decide) rfl hl.1 rfl (Nat.le_of_ble_eq_true rfl) dX5_between_35 (fun H locs hP hD hS => ?_)
        refine lv_istore_n (lv' := [(3, .int r_4), (0, .ref qx), (1, .int p1), (2, .int p2)]) hx hb dX5_between_38 rfl hl (by decide) rfl (fun ls hl => ?_)
        refine lv_iload_n hx hb dX5_between_39 rfl (lv_at hl 0 rfl) ?_
        refine lv_iconst (v := (-1 : Int32)) hx hb dX5_between_40 (by decide) ?_
        refine lv_icmp_ne (tgt := 49) hx hb dX5_between_41 (by decide) (fun cc_6 => ?_) (fun cc_6 => ?_)
        · have h := (if_neg cc_6).symm.trans h
          refine lv_iload_n hx hb dX5_between_49 rfl (lv_at hl 0 rfl) ?_
          have hq := Option.some.inj h
          clear h
          subst hq
          exact k_retI hx hb hr hlocks hP hD hS dX5_between_50
        · have h := (if_pos cc_6).symm.trans h
          refine lv_bipush (v := (-9 : Int32)) hx hb dX5_between_44 (by decide) ?_
          refine lv_goto (tgt := 50) hx hb dX5_between_46 (by decide) ?_
          have hq := Option.some.inj h
          clear h
          subst hq
          exact k_retI hx hb hr hlocks hP hD hS dX5_between_50
      · have h := (if_pos cc_3).symm.trans h
        refine lv_iconst (v := (-1 : Int32)) hx hb dX5_between_27 (by decide) ?_
        have hq := Option.some.inj h
        clear h
        subst hq
        exact k_retI hx hb hr hlocks hP hD hS dX5_between_28
def f_X5_way (p1 : Int32) (p2 : Int32) (p3 : Int32) (n_nodes : Int32) (n_links : Int32) (n_alive : Int32) (n_low : (Nat → Int32)) (n_high : (Nat → Int32)) (n_length : (Nat → Int32)) (y_far : (Nat → Int32)) (y_usable : Int32) : Option (Int32 × (Nat → Int32) × Int32) :=
  if (f_X1_hasNode p1 n_nodes) = (0 : Int32) then
    some ((-1 : Int32), y_far, y_usable)
  else
    if (f_X1_hasNode p2 n_nodes) = (0 : Int32) then
      some ((-1 : Int32), y_far, y_usable)
    else
      if (-2 : Int32) ≤ p3 then
        (f_X4_measure n_alive p2 y_far y_usable n_nodes n_links n_low n_high n_length).bind fun ⟨o_4, o_5⟩ =>
        (f_X4_leadsFrom p1 o_4).bind fun r_7 =>
        if r_7 = (0 : Int32) then
          some ((-9 : Int32), o_4, o_5)
        else
          (f_X4_linksFrom p1 o_4).bind fun r_10 =>
          if p3 ≤ r_10 then
            if p3 = (-1 : Int32) then
              (f_X4_lengthFrom p1 o_4).bind fun r_19 =>
              some (r_19, o_4, o_5)
            else
              if p3 = (-2 : Int32) then
                (f_X4_linksFrom p1 o_4).bind fun r_17 =>
                some (r_17, o_4, o_5)
              else
                (f_X4_nodeAfter p1 p3 o_4 o_5 n_links n_low n_high n_length).bind fun r_15 =>
                some (r_15, o_4, o_5)
          else
            some ((-9 : Int32), o_4, o_5)
      else
        some ((-1 : Int32), y_far, y_usable)
set_option maxHeartbeats 4000000 in
set_option maxRecDepth 100000 in
theorem c_X5_way (l : Launch) (D : va_G) (cI cZ cN : ClassId) (aK aV : Nat → Nat)  (qx : Nat) (qx_history : Nat) (qx_images : Nat) (qx_kept : Nat) (qn : Nat) (qn_low : Nat) (qn_high : Nat) (qn_length : Nat) (qd : Nat) (qy : Nat) (qy_far : Nat) (qt : Nat) (qv : Nat) (qz : Nat) (x_undoable : Int32) (x_letterSent : Int32) (x_letterFits : Int32) (n_nodes : Int32) (n_links : Int32) (n_room : Int32) (n_alive : Int32) (n_inMap : Int32) (n_low : (Nat → Int32)) (n_high : (Nat → Int32)) (n_length : (Nat → Int32)) (y_far : (Nat → Int32)) (y_usable : Int32) (p1 p2 p3 : Int32) (r : Int32) (z_y_far : (Nat → Int32)) (z_y_usable : Int32) (h : f_X5_way p1 p2 p3 n_nodes n_links n_alive n_low n_high n_length y_far y_usable = some (r, z_y_far, z_y_usable)) : CtI l D cI cZ cN aK aV yX5_way (k_W yX5_way cX5_way 4 (some .int)) { frames := 3, cells := 0, slots := 0, locals := 72 } [.ref qx, .int p1, .int p2, .int p3] [(qy, .inr (4, [.ref qn, .ref qy_far, .int y_usable])), (qy_far, .inl (cI, 9, .inl y_far)), (qx, .inr (5, [.ref qn, .ref qd, .ref qx_history, .int x_undoable, .ref qx_images, .ref qx_kept, .ref qy, .ref qt, .int x_letterSent, .int x_letterFits, .ref qv, .ref qz])), (qn, .inr (1, [.int n_nodes, .int n_links, .int n_room, .int n_alive, .int n_inMap, .ref qn_low, .ref qn_high, .ref qn_length])), (qn_low, .inl (cI, 18, .inl n_low)), (qn_high, .inl (cI, 18, .inl n_high)), (qn_length, .inl (cI, 18, .inl n_length))] r [(qy, .inr (4, [.ref qn, .ref qy_far, .int z_y_usable])), (qy_far, .inl (cI, 9, .inl z_y_far)), (qx, .inr (5, [.ref qn, .ref qd, .ref qx_history, .int x_undoable, .ref qx_images, .ref qx_kept, .ref qy, .ref qt, .int x_letterSent, .int x_letterFits, .ref qv, .ref qz])), (qn, .inr (1, [.int n_nodes, .int n_links, .int n_room, .int n_alive, .int n_inMap, .ref qn_low, .ref qn_high, .ref qn_length])), (qn_low, .inl (cI, 18, .inl n_low)), (qn_high, .inl (cI, 18, .inl n_high)), (qn_length, .inl (cI, 18, .inl n_length))] := by
  refine k_startI (by decide) (Nat.le_of_ble_eq_true rfl) ?_
  intro p e s m below meth c A ls hx hb hr hml hown hts hlocks hT hZ hA hP hD hS hl
  have hK := hT.1
  have hu : ∀ w ∈ k_U, w.before ([.ref qx, .int p1, .int p2, .int p3] : List Value).toArray s = true := fun w h => hts w (List.mem_cons_of_mem _ h)
  have hown : s.vm.findClass RX5 = some m.cls := hown
  have hl : lv_has ls 4 [(0, .ref qx), (1, .int p1), (2, .int p2), (3, .int p3)] := hl
  unfold f_X5_way at h
  refine lv_aload_n hx hb dX5_way_0 rfl (lv_at hl 0 rfl) ?_
  refine va_get (D := D) (ci := 5) (v := .ref qn) (C := RX5) (T := TX5) (N := 12) hx hb hu k_iX5 hown hK hP 2 rfl rfl 0 (by decide) (hu _ u_283) (fun _ h9 => h9) rfl dX5_way_1 ?_
  refine lv_iload_n hx hb dX5_way_4 rfl (lv_at hl 1 rfl) ?_
  refine k_callVIr (qb := 0) [3] (As := [.int p1]) (rest := []) ⟨hx, hb, hml, hown, hts⟩ hT hZ hA hP hD hS (c_X1_hasNode l D cI cZ cN aK aV qn qn_low qn_high qn_length n_nodes n_links n_room n_alive n_inMap p1 _ rfl) ⟨callB_of 1 hts (k_good u_351) rfl rfl rfl (hu _ u_46) (hu _ u_451) (by decide +kernel) ⟨Nat.le_of_ble_eq_true rfl, Nat.le_of_ble_eq_true rfl⟩, hu _ u_349, hu _ u_350⟩ rfl rfl rfl (by decide) rfl hl.1 rfl (Nat.le_of_ble_eq_true rfl) dX5_way_5 (fun H locs hP hD hS => ?_)
  refine lv_if_eq (tgt := 28) hx hb dX5_way_8 (by decide) (fun cc_1 => ?_) (fun cc_1 => ?_)
  · have h := (if_pos cc_1).symm.trans h
    refine lv_iconst (v := (-1 : Int32)) hx hb dX5_way_28 (by decide) ?_
    have hq := Option.some.inj h
    clear h
    obtain ⟨e0, hq0⟩ := Prod.mk.inj hq
    clear hq
    obtain ⟨e1, hq1⟩ := Prod.mk.inj hq0
    clear hq0
    subst e0
    subst e1
    subst hq1
    exact k_retI hx hb hr hlocks hP hD hS dX5_way_29
  · have h := (if_neg cc_1).symm.trans h
    refine lv_aload_n hx hb dX5_way_11 rfl (lv_at hl 0 rfl) ?_
    refine va_get (D := D) (ci := 5) (v := .ref qn) (C := RX5) (T := TX5) (N := 12) hx hb hu k_iX5 hown hK hP 2 rfl rfl 0 (by decide) (hu _ u_283) (fun _ h9 => h9) rfl dX5_way_12 ?_
    refine lv_iload_n hx hb dX5_way_15 rfl (lv_at hl 2 rfl) ?_
    refine k_callVIr (qb := 0) [3] (As := [.int p2]) (rest := []) ⟨hx, hb, hml, hown, hts⟩ hT hZ hA hP hD hS (c_X1_hasNode l D cI cZ cN aK aV qn qn_low qn_high qn_length n_nodes n_links n_room n_alive n_inMap p2 _ rfl) ⟨callB_of 1 hts (k_good u_351) rfl rfl rfl (hu _ u_46) (hu _ u_451) (by decide +kernel) ⟨Nat.le_of_ble_eq_true rfl, Nat.le_of_ble_eq_true rfl⟩, hu _ u_349, hu _ u_350⟩ rfl rfl rfl (by decide) rfl hl.1 rfl (Nat.le_of_ble_eq_true rfl) dX5_way_16 (fun H locs hP hD hS => ?_)
    refine lv_if_eq (tgt := 28) hx hb dX5_way_19 (by decide) (fun cc_2 => ?_) (fun cc_2 => ?_)
    · have h := (if_pos cc_2).symm.trans h
      refine lv_iconst (v := (-1 : Int32)) hx hb dX5_way_28 (by decide) ?_
      have hq := Option.some.inj h
      clear h
      obtain ⟨e0, hq0⟩ := Prod.mk.inj hq
      clear hq
      obtain ⟨e1, hq1⟩ := Prod.mk.inj hq0
      clear hq0
      subst e0
      subst e1
      subst hq1
      exact k_retI hx hb hr hlocks hP hD hS dX5_way_29
    · have h := (if_neg cc_2).symm.trans h
      refine lv_iload_n hx hb dX5_way_22 rfl (lv_at hl 3 rfl) ?_
      refine lv_bipush (v := (-2 : Int32)) hx hb dX5_way_23 (by decide) ?_
      refine lv_icmp_ge (tgt := 30) hx hb dX5_way_25 (by decide) (fun cc_3 => ?_) (fun cc_3 => ?_)
      · have h := (if_pos cc_3).symm.trans h
        refine lv_aload_n hx hb dX5_way_30 rfl (lv_at hl 0 rfl) ?_
        refine va_get (D := D) (ci := 5) (v := .ref qy) (C := RX5) (T := TX5) (N := 12) hx hb hu k_iX5 hown hK hP 2 rfl rfl 6 (by decide) (hu _ u_289) (fun _ h9 => h9) rfl dX5_way_31 ?_
        refine lv_aload_n hx hb dX5_way_34 rfl (lv_at hl 0 rfl) ?_
        refine va_get (D := D) (ci := 5) (v := .ref qn) (C := RX5) (T := TX5) (N := 12) hx hb hu k_iX5 hown hK hP 2 rfl rfl 0 (by decide) (hu _ u_283) (fun _ h9 => h9) rfl dX5_way_35 ?_
        refine va_get (D := D) (ci := 1) (v := .int n_alive) (C := RX1) (T := TX1) (N := 8) hx hb hu k_iX1 hown hK hP 3 rfl rfl 3 (by decide) (hu _ u_85) (fun _ h9 => h9) rfl dX5_way_38 ?_
        refine lv_iload_n hx hb dX5_way_41 rfl (lv_at hl 2 rfl) ?_
        obtain ⟨⟨o_4, o_5⟩, hc_6, h⟩ := ob_bind h
        dsimp only at h
        refine k_callVV (qb := 0) [0, 1, 3, 4, 5, 6] [0, 1] [0, 1] [(qy, .inr (4, [.ref qn, .ref qy_far, .int o_5])), (qy_far, .inl (cI, 9, .inl o_4))] (As := [.int n_alive, .int p2]) (rest := []) ⟨hx, hb, hml, hown, hts⟩ hT hZ hA hP hD hS (c_X4_measure l D cI cZ cN aK aV qy qy_far qn qn_low qn_high qn_length y_far y_usable n_nodes n_links n_room n_alive n_inMap n_low n_high n_length n_alive p2 o_4 o_5 hc_6) ⟨callB_of 2 hts (k_good u_460) rfl rfl rfl (hu _ u_47) (hu _ u_457) (by decide +kernel) ⟨Nat.le_of_ble_eq_true rfl, Nat.le_of_ble_eq_true rfl⟩, hu _ u_458, hu _ u_459⟩ rfl rfl rfl (by decide) (by decide) (by decide) rfl rfl rfl rfl hl.1 rfl (Nat.le_of_ble_eq_true rfl) dX5_way_42 (fun H locs hP hD hS => ?_)
        have hP : va_P D vwCl [(qy, .inr (4, [.ref qn, .ref qy_far, .int o_5])), (qy_far, .inl (cI, 9, .inl o_4)), (qx, .inr (5, [.ref qn, .ref qd, .ref qx_history, .int x_undoable, .ref qx_images, .ref qx_kept, .ref qy, .ref qt, .int x_letterSent, .int x_letterFits, .ref qv, .ref qz])), (qn, .inr (1, [.int n_nodes, .int n_links, .int n_room, .int n_alive, .int n_inMap, .ref qn_low, .ref qn_high, .ref qn_length])), (qn_low, .inl (cI, 18, .inl n_low)), (qn_high, .inl (cI, 18, .inl n_high)), (qn_length, .inl (cI, 18, .inl n_length))] H := hP
        have hD : va_D A [(qy, .inr (4, [.ref qn, .ref qy_far, .int o_5])), (qy_far, .inl (cI, 9, .inl o_4)), (qx, .inr (5, [.ref qn, .ref qd, .ref qx_history, .int x_undoable, .ref qx_images, .ref qx_kept, .ref qy, .ref qt, .int x_letterSent, .int x_letterFits, .ref qv, .ref qz])), (qn, .inr (1, [.int n_nodes, .int n_links, .int n_room, .int n_alive, .int n_inMap, .ref qn_low, .ref qn_high, .ref qn_length])), (qn_low, .inl (cI, 18, .inl n_low)), (qn_high, .inl (cI, 18, .inl n_high)), (qn_length, .inl (cI, 18, .inl n_length))] := hD
        refine lv_aload_n hx hb dX5_way_45 rfl (lv_at hl 0 rfl) ?_
        refine va_get (D := D) (ci := 5) (v := .ref qy) (C := RX5) (T := TX5) (N := 12) hx hb hu k_iX5 hown hK hP 2 rfl rfl 6 (by decide) (hu _ u_289) (fun _ h9 => h9) rfl dX5_way_46 ?_
        refine lv_iload_n hx hb dX5_way_49 rfl (lv_at hl 1 rfl) ?_
        obtain ⟨r_7, hc_8, h⟩ := ob_bind h
        refine k_callVIr (qb := 0) [0, 1] (As := [.int p1]) (rest := []) ⟨hx, hb, hml, hown, hts⟩ hT hZ hA hP hD hS (c_X4_leadsFrom l D cI cZ cN aK aV qy qy_far qn o_4 o_5 p1 r_7 hc_8) ⟨callB_of 1 hts (k_good u_477) rfl rfl rfl (hu _ u_47) (hu _ u_474) (by decide +kernel) ⟨Nat.le_of_ble_eq_true rfl, Nat.le_of_ble_eq_true rfl⟩, hu _ u_475, hu _ u_476⟩ rfl rfl rfl (by decide) rfl hl.1 rfl (Nat.le_of_ble_eq_true rfl) dX5_way_50 (fun H locs hP hD hS => ?_)
        refine lv_if_eq (tgt := 68) hx hb dX5_way_53 (by decide) (fun cc_9 => ?_) (fun cc_9 => ?_)
        · have h := (if_pos cc_9).symm.trans h
          refine lv_bipush (v := (-9 : Int32)) hx hb dX5_way_68 (by decide) ?_
          have hq := Option.some.inj h
          clear h
          obtain ⟨e0, hq0⟩ := Prod.mk.inj hq
          clear hq
          obtain ⟨e1, hq1⟩ := Prod.mk.inj hq0
          clear hq0
          subst e0
          subst e1
          subst hq1
          exact k_retI hx hb hr hlocks hP hD hS dX5_way_70
        · have h := (if_neg cc_9).symm.trans h
          refine lv_iload_n hx hb dX5_way_56 rfl (lv_at hl 3 rfl) ?_
          refine lv_aload_n hx hb dX5_way_57 rfl (lv_at hl 0 rfl) ?_
          refine va_get (D := D) (ci := 5) (v := .ref qy) (C := RX5) (T := TX5) (N := 12) hx hb hu k_iX5 hown hK hP 2 rfl rfl 6 (by decide) (hu _ u_289) (fun _ h9 => h9) rfl dX5_way_58 ?_
          refine lv_iload_n hx hb dX5_way_61 rfl (lv_at hl 1 rfl) ?_
          obtain ⟨r_10, hc_11, h⟩ := ob_bind h
          refine k_callVIr (qb := 0) [0, 1] (As := [.int p1]) (rest := [.int p3]) ⟨hx, hb, hml, hown, hts⟩ hT hZ hA hP hD hS (c_X4_linksFrom l D cI cZ cN aK aV qy qy_far qn o_4 o_5 p1 r_10 hc_11) ⟨callB_of 1 hts (k_good u_481) rfl rfl rfl (hu _ u_47) (hu _ u_478) (by decide +kernel) ⟨Nat.le_of_ble_eq_true rfl, Nat.le_of_ble_eq_true rfl⟩, hu _ u_479, hu _ u_480⟩ rfl rfl rfl (by decide) rfl hl.1 rfl (Nat.le_of_ble_eq_true rfl) dX5_way_62 (fun H locs hP hD hS => ?_)
          refine lv_icmp_le (tgt := 71) hx hb dX5_way_65 (by decide) (fun cc_12 => ?_) (fun cc_12 => ?_)
          · have h := (if_pos cc_12).symm.trans h
            refine lv_iload_n hx hb dX5_way_71 rfl (lv_at hl 3 rfl) ?_
            refine lv_iconst (v := (-1 : Int32)) hx hb dX5_way_72 (by decide) ?_
            refine lv_icmp_ne (tgt := 85) hx hb dX5_way_73 (by decide) (fun cc_13 => ?_) (fun cc_13 => ?_)
            · have h := (if_neg cc_13).symm.trans h
              refine lv_iload_n hx hb dX5_way_85 rfl (lv_at hl 3 rfl) ?_
              refine lv_bipush (v := (-2 : Int32)) hx hb dX5_way_86 (by decide) ?_
              refine lv_icmp_ne (tgt := 100) hx hb dX5_way_88 (by decide) (fun cc_14 => ?_) (fun cc_14 => ?_)
              · have h := (if_neg cc_14).symm.trans h
                refine lv_aload_n hx hb dX5_way_100 rfl (lv_at hl 0 rfl) ?_
                refine va_get (D := D) (ci := 5) (v := .ref qy) (C := RX5) (T := TX5) (N := 12) hx hb hu k_iX5 hown hK hP 2 rfl rfl 6 (by decide) (hu _ u_289) (fun _ h9 => h9) rfl dX5_way_101 ?_
                refine lv_iload_n hx hb dX5_way_104 rfl (lv_at hl 1 rfl) ?_
                refine lv_iload_n hx hb dX5_way_105 rfl (lv_at hl 3 rfl) ?_
                obtain ⟨r_15, hc_16, h⟩ := ob_bind h
                refine k_callVIr (qb := 0) [0, 1, 3, 4, 5, 6] (As := [.int p1, .int p3]) (rest := []) ⟨hx, hb, hml, hown, hts⟩ hT hZ hA hP hD hS (c_X4_nodeAfter l D cI cZ cN aK aV qy qy_far qn qn_low qn_high qn_length o_4 o_5 n_nodes n_links n_room n_alive n_inMap n_low n_high n_length p1 p3 r_15 hc_16) ⟨callB_of 2 hts (k_good u_489) rfl rfl rfl (hu _ u_47) (hu _ u_486) (by decide +kernel) ⟨Nat.le_of_ble_eq_true rfl, Nat.le_of_ble_eq_true rfl⟩, hu _ u_487, hu _ u_488⟩ rfl rfl rfl (by decide) rfl hl.1 rfl (Nat.le_of_ble_eq_true rfl) dX5_way_106 (fun H locs hP hD hS => ?_)
                have hq := Option.some.inj h
                clear h
                obtain ⟨e0, hq0⟩ := Prod.mk.inj hq
                clear hq
                obtain ⟨e1, hq1⟩ := Prod.mk.inj hq0
                clear hq0
                subst e0
                subst e1
                subst hq1
                exact k_retI hx hb hr hlocks hP hD hS dX5_way_109
              · have h := (if_pos cc_14).symm.trans h
                refine lv_aload_n hx hb dX5_way_91 rfl (lv_at hl 0 rfl) ?_
                refine va_get (D := D) (ci := 5) (v := .ref qy) (C := RX5) (T := TX5) (N := 12) hx hb hu k_iX5 hown hK hP 2 rfl rfl 6 (by decide) (hu _ u_289) (fun _ h9 => h9) rfl dX5_way_92 ?_
                refine lv_iload_n hx hb dX5_way_95 rfl (lv_at hl 1 rfl) ?_
                obtain ⟨r_17, hc_18, h⟩ := ob_bind h
                refine k_callVIr (qb := 0) [0, 1] (As := [.int p1]) (rest := []) ⟨hx, hb, hml, hown, hts⟩ hT hZ hA hP hD hS (c_X4_linksFrom l D cI cZ cN aK aV qy qy_far qn o_4 o_5 p1 r_17 hc_18) ⟨callB_of 1 hts (k_good u_481) rfl rfl rfl (hu _ u_47) (hu _ u_478) (by decide +kernel) ⟨Nat.le_of_ble_eq_true rfl, Nat.le_of_ble_eq_true rfl⟩, hu _ u_479, hu _ u_480⟩ rfl rfl rfl (by decide) rfl hl.1 rfl (Nat.le_of_ble_eq_true rfl) dX5_way_96 (fun H locs hP hD hS => ?_)
                have hq := Option.some.inj h
                clear h
                obtain ⟨e0, hq0⟩ := Prod.mk.inj hq
                clear hq
                obtain ⟨e1, hq1⟩ := Prod.mk.inj hq0
                clear hq0
                subst e0
                subst e1
                subst hq1
                exact k_retI hx hb hr hlocks hP hD hS dX5_way_99
            · have h := (if_pos cc_13).symm.trans h
              refine lv_aload_n hx hb dX5_way_76 rfl (lv_at hl 0 rfl) ?_
              refine va_get (D := D) (ci := 5) (v := .ref qy) (C := RX5) (T := TX5) (N := 12) hx hb hu k_iX5 hown hK hP 2 rfl rfl 6 (by decide) (hu _ u_289) (fun _ h9 => h9) rfl dX5_way_77 ?_
              refine lv_iload_n hx hb dX5_way_80 rfl (lv_at hl 1 rfl) ?_
              obtain ⟨r_19, hc_20, h⟩ := ob_bind h
              refine k_callVIr (qb := 0) [0, 1] (As := [.int p1]) (rest := []) ⟨hx, hb, hml, hown, hts⟩ hT hZ hA hP hD hS (c_X4_lengthFrom l D cI cZ cN aK aV qy qy_far qn o_4 o_5 p1 r_19 hc_20) ⟨callB_of 1 hts (k_good u_485) rfl rfl rfl (hu _ u_47) (hu _ u_482) (by decide +kernel) ⟨Nat.le_of_ble_eq_true rfl, Nat.le_of_ble_eq_true rfl⟩, hu _ u_483, hu _ u_484⟩ rfl rfl rfl (by decide) rfl hl.1 rfl (Nat.le_of_ble_eq_true rfl) dX5_way_81 (fun H locs hP hD hS => ?_)
              have hq := Option.some.inj h
              clear h
              obtain ⟨e0, hq0⟩ := Prod.mk.inj hq
              clear hq
              obtain ⟨e1, hq1⟩ := Prod.mk.inj hq0
              clear hq0
              subst e0
              subst e1
              subst hq1
              exact k_retI hx hb hr hlocks hP hD hS dX5_way_84
          · have h := (if_neg cc_12).symm.trans h
            refine lv_bipush (v := (-9 : Int32)) hx hb dX5_way_68 (by decide) ?_
            have hq := Option.some.inj h
            clear h
            obtain ⟨e0, hq0⟩ := Prod.mk.inj hq
            clear hq
            obtain ⟨e1, hq1⟩ := Prod.mk.inj hq0
            clear hq0
            subst e0
            subst e1
            subst hq1
            exact k_retI hx hb hr hlocks hP hD hS dX5_way_70
      · have h := (if_neg cc_3).symm.trans h
        refine lv_iconst (v := (-1 : Int32)) hx hb dX5_way_28 (by decide) ?_
        have hq := Option.some.inj h
        clear h
        obtain ⟨e0, hq0⟩ := Prod.mk.inj hq
        clear hq
        obtain ⟨e1, hq1⟩ := Prod.mk.inj hq0
        clear hq0
        subst e0
        subst e1
        subst hq1
        exact k_retI hx hb hr hlocks hP hD hS dX5_way_29
