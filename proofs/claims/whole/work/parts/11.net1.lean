def f_X1_clear (p1 : Int32) (n_nodes : Int32) (n_links : Int32) (n_alive : Int32) (n_inMap : Int32) : Int32 × Int32 × Int32 × Int32 :=
  (p1, (0 : Int32), (0 : Int32), (0 : Int32))
set_option maxHeartbeats 4000000 in
set_option maxRecDepth 100000 in
theorem c_X1_clear (l : Launch) (D : va_G) (cI cZ cN : ClassId) (aK aV : Nat → Nat)  (qn : Nat) (qn_low : Nat) (qn_high : Nat) (qn_length : Nat) (n_nodes : Int32) (n_links : Int32) (n_room : Int32) (n_alive : Int32) (n_inMap : Int32) (p1 : Int32) (z_n_nodes : Int32) (z_n_links : Int32) (z_n_alive : Int32) (z_n_inMap : Int32) (h : f_X1_clear p1 n_nodes n_links n_alive n_inMap = (z_n_nodes, z_n_links, z_n_alive, z_n_inMap)) : CtV l D cI cZ cN aK aV yX1_clear (k_W yX1_clear cX1_clear 2 none) { frames := 0, cells := 0, slots := 0, locals := 0 } [.ref qn, .int p1] [(qn, .inr (1, [.int n_nodes, .int n_links, .int n_room, .int n_alive, .int n_inMap, .ref qn_low, .ref qn_high, .ref qn_length]))] [(qn, .inr (1, [.int z_n_nodes, .int z_n_links, .int n_room, .int z_n_alive, .int z_n_inMap, .ref qn_low, .ref qn_high, .ref qn_length]))] := by
  refine k_startV (by decide) (Nat.le_of_ble_eq_true rfl) ?_
  intro p e s m below meth c A ls hx hb hr hml hown hts hlocks hT hZ hA hP hD hS hl
  have hK := hT.1
  have hu : ∀ w ∈ k_U, w.before ([.ref qn, .int p1] : List Value).toArray s = true := fun w h => hts w (List.mem_cons_of_mem _ h)
  have hown : s.vm.findClass RX1 = some m.cls := hown
  have hl : lv_has ls 2 [(0, .ref qn), (1, .int p1)] := hl
  unfold f_X1_clear at h
  refine lv_aload_n hx hb dX1_clear_0 rfl (lv_at hl 0 rfl) ?_
  refine lv_iload_n hx hb dX1_clear_1 rfl (lv_at hl 1 rfl) ?_
  refine va_put (D := D) (ci := 1) (v := .int p1) (ty := .int) (C := RX1) (T := TX1) (N := 8) hx hb hu k_iX1 tyX1 tyX1_ok nmX1 hown hK hP hD hS 0 rfl rfl 0 (by decide) (hu _ u_73) (fun _ h9 => h9) rfl (by decide +kernel) rfl rfl (Nat.le_of_ble_eq_true rfl) dX1_clear_2 (fun H locs hP hD hS => ?_)
  have hP : va_P D vwCl [(qn, .inr (1, [.int p1, .int n_links, .int n_room, .int n_alive, .int n_inMap, .ref qn_low, .ref qn_high, .ref qn_length]))] H := hP
  have hD : va_D A [(qn, .inr (1, [.int p1, .int n_links, .int n_room, .int n_alive, .int n_inMap, .ref qn_low, .ref qn_high, .ref qn_length]))] := hD
  refine lv_aload_n hx hb dX1_clear_5 rfl (lv_at hl 0 rfl) ?_
  refine lv_iconst (v := (0 : Int32)) hx hb dX1_clear_6 (by decide) ?_
  refine va_put (D := D) (ci := 1) (v := .int (0 : Int32)) (ty := .int) (C := RX1) (T := TX1) (N := 8) hx hb hu k_iX1 tyX1 tyX1_ok nmX1 hown hK hP hD hS 0 rfl rfl 1 (by decide) (hu _ u_77) (fun _ h9 => h9) rfl (by decide +kernel) rfl rfl (Nat.le_of_ble_eq_true rfl) dX1_clear_7 (fun H locs hP hD hS => ?_)
  have hP : va_P D vwCl [(qn, .inr (1, [.int p1, .int (0 : Int32), .int n_room, .int n_alive, .int n_inMap, .ref qn_low, .ref qn_high, .ref qn_length]))] H := hP
  have hD : va_D A [(qn, .inr (1, [.int p1, .int (0 : Int32), .int n_room, .int n_alive, .int n_inMap, .ref qn_low, .ref qn_high, .ref qn_length]))] := hD
  refine lv_aload_n hx hb dX1_clear_10 rfl (lv_at hl 0 rfl) ?_
  refine lv_iconst (v := (0 : Int32)) hx hb dX1_clear_11 (by decide) ?_
  refine va_put (D := D) (ci := 1) (v := .int (0 : Int32)) (ty := .int) (C := RX1) (T := TX1) (N := 8) hx hb hu k_iX1 tyX1 tyX1_ok nmX1 hown hK hP hD hS 0 rfl rfl 3 (by decide) (hu _ u_82) (fun _ h9 => h9) rfl (by decide +kernel) rfl rfl (Nat.le_of_ble_eq_true rfl) dX1_clear_12 (fun H locs hP hD hS => ?_)
  have hP : va_P D vwCl [(qn, .inr (1, [.int p1, .int (0 : Int32), .int n_room, .int (0 : Int32), .int n_inMap, .ref qn_low, .ref qn_high, .ref qn_length]))] H := hP
  have hD : va_D A [(qn, .inr (1, [.int p1, .int (0 : Int32), .int n_room, .int (0 : Int32), .int n_inMap, .ref qn_low, .ref qn_high, .ref qn_length]))] := hD
  refine lv_aload_n hx hb dX1_clear_15 rfl (lv_at hl 0 rfl) ?_
  refine lv_iconst (v := (0 : Int32)) hx hb dX1_clear_16 (by decide) ?_
  refine va_put (D := D) (ci := 1) (v := .int (0 : Int32)) (ty := .int) (C := RX1) (T := TX1) (N := 8) hx hb hu k_iX1 tyX1 tyX1_ok nmX1 hown hK hP hD hS 0 rfl rfl 4 (by decide) (hu _ u_87) (fun _ h9 => h9) rfl (by decide +kernel) rfl rfl (Nat.le_of_ble_eq_true rfl) dX1_clear_17 (fun H locs hP hD hS => ?_)
  have hP : va_P D vwCl [(qn, .inr (1, [.int p1, .int (0 : Int32), .int n_room, .int (0 : Int32), .int (0 : Int32), .ref qn_low, .ref qn_high, .ref qn_length]))] H := hP
  have hD : va_D A [(qn, .inr (1, [.int p1, .int (0 : Int32), .int n_room, .int (0 : Int32), .int (0 : Int32), .ref qn_low, .ref qn_high, .ref qn_length]))] := hD
  have hq := h
  clear h
  obtain ⟨e0, hq0⟩ := Prod.mk.inj hq
  clear hq
  obtain ⟨e1, hq1⟩ := Prod.mk.inj hq0
  clear hq0
  obtain ⟨e2, hq2⟩ := Prod.mk.inj hq1
  clear hq1
  subst e0
  subst e1
  subst e2
  subst hq2
  exact k_retV hx hb hr hlocks hP hD hS dX1_clear_20
def f_X1_hasNode (p1 : Int32) (n_nodes : Int32) : Int32 :=
  if p1 < (0 : Int32) then
    (0 : Int32)
  else
    if n_nodes ≤ p1 then
      (0 : Int32)
    else
      (1 : Int32)
set_option maxHeartbeats 4000000 in
set_option maxRecDepth 100000 in
theorem c_X1_hasNode (l : Launch) (D : va_G) (cI cZ cN : ClassId) (aK aV : Nat → Nat)  (qn : Nat) (qn_low : Nat) (qn_high : Nat) (qn_length : Nat) (n_nodes : Int32) (n_links : Int32) (n_room : Int32) (n_alive : Int32) (n_inMap : Int32) (p1 : Int32) (r : Int32) (h : f_X1_hasNode p1 n_nodes = r) : CtI l D cI cZ cN aK aV yX1_hasNode (k_W yX1_hasNode cX1_hasNode 2 (some .boolean)) { frames := 0, cells := 0, slots := 0, locals := 0 } [.ref qn, .int p1] [(qn, .inr (1, [.int n_nodes, .int n_links, .int n_room, .int n_alive, .int n_inMap, .ref qn_low, .ref qn_high, .ref qn_length]))] r [(qn, .inr (1, [.int n_nodes, .int n_links, .int n_room, .int n_alive, .int n_inMap, .ref qn_low, .ref qn_high, .ref qn_length]))] := by
  refine k_startI (by decide) (Nat.le_of_ble_eq_true rfl) ?_
  intro p e s m below meth c A ls hx hb hr hml hown hts hlocks hT hZ hA hP hD hS hl
  have hK := hT.1
  have hu : ∀ w ∈ k_U, w.before ([.ref qn, .int p1] : List Value).toArray s = true := fun w h => hts w (List.mem_cons_of_mem _ h)
  have hown : s.vm.findClass RX1 = some m.cls := hown
  have hl : lv_has ls 2 [(0, .ref qn), (1, .int p1)] := hl
  unfold f_X1_hasNode at h
  refine lv_iload_n hx hb dX1_hasNode_0 rfl (lv_at hl 1 rfl) ?_
  refine lv_if_lt (tgt := 16) hx hb dX1_hasNode_1 (by decide) (fun cc_1 => ?_) (fun cc_1 => ?_)
  · have h := (if_pos cc_1).symm.trans h
    refine lv_iconst (v := (0 : Int32)) hx hb dX1_hasNode_16 (by decide) ?_
    have hq := h
    clear h
    subst hq
    exact k_retZ hx hb hr hlocks (Or.inl rfl) hP hD hS dX1_hasNode_17
  · have h := (if_neg cc_1).symm.trans h
    refine lv_iload_n hx hb dX1_hasNode_4 rfl (lv_at hl 1 rfl) ?_
    refine lv_aload_n hx hb dX1_hasNode_5 rfl (lv_at hl 0 rfl) ?_
    refine va_get (D := D) (ci := 1) (v := .int n_nodes) (C := RX1) (T := TX1) (N := 8) hx hb hu k_iX1 hown hK hP 0 rfl rfl 0 (by decide) (hu _ u_73) (fun _ h9 => h9) rfl dX1_hasNode_6 ?_
    refine lv_icmp_ge (tgt := 16) hx hb dX1_hasNode_9 (by decide) (fun cc_2 => ?_) (fun cc_2 => ?_)
    · have h := (if_pos cc_2).symm.trans h
      refine lv_iconst (v := (0 : Int32)) hx hb dX1_hasNode_16 (by decide) ?_
      have hq := h
      clear h
      subst hq
      exact k_retZ hx hb hr hlocks (Or.inl rfl) hP hD hS dX1_hasNode_17
    · have h := (if_neg cc_2).symm.trans h
      refine lv_iconst (v := (1 : Int32)) hx hb dX1_hasNode_12 (by decide) ?_
      refine lv_goto (tgt := 17) hx hb dX1_hasNode_13 (by decide) ?_
      have hq := h
      clear h
      subst hq
      exact k_retZ hx hb hr hlocks (Or.inr rfl) hP hD hS dX1_hasNode_17
def f_X1_hasLink (p1 : Int32) (n_links : Int32) : Int32 :=
  if p1 < (0 : Int32) then
    (0 : Int32)
  else
    if n_links ≤ p1 then
      (0 : Int32)
    else
      (1 : Int32)
set_option maxHeartbeats 4000000 in
set_option maxRecDepth 100000 in
theorem c_X1_hasLink (l : Launch) (D : va_G) (cI cZ cN : ClassId) (aK aV : Nat → Nat)  (qn : Nat) (qn_low : Nat) (qn_high : Nat) (qn_length : Nat) (n_nodes : Int32) (n_links : Int32) (n_room : Int32) (n_alive : Int32) (n_inMap : Int32) (p1 : Int32) (r : Int32) (h : f_X1_hasLink p1 n_links = r) : CtI l D cI cZ cN aK aV yX1_hasLink (k_W yX1_hasLink cX1_hasLink 2 (some .boolean)) { frames := 0, cells := 0, slots := 0, locals := 0 } [.ref qn, .int p1] [(qn, .inr (1, [.int n_nodes, .int n_links, .int n_room, .int n_alive, .int n_inMap, .ref qn_low, .ref qn_high, .ref qn_length]))] r [(qn, .inr (1, [.int n_nodes, .int n_links, .int n_room, .int n_alive, .int n_inMap, .ref qn_low, .ref qn_high, .ref qn_length]))] := by
  refine k_startI (by decide) (Nat.le_of_ble_eq_true rfl) ?_
  intro p e s m below meth c A ls hx hb hr hml hown hts hlocks hT hZ hA hP hD hS hl
  have hK := hT.1
  have hu : ∀ w ∈ k_U, w.before ([.ref qn, .int p1] : List Value).toArray s = true := fun w h => hts w (List.mem_cons_of_mem _ h)
  have hown : s.vm.findClass RX1 = some m.cls := hown
  have hl : lv_has ls 2 [(0, .ref qn), (1, .int p1)] := hl
  unfold f_X1_hasLink at h
  refine lv_iload_n hx hb dX1_hasLink_0 rfl (lv_at hl 1 rfl) ?_
  refine lv_if_lt (tgt := 16) hx hb dX1_hasLink_1 (by decide) (fun cc_1 => ?_) (fun cc_1 => ?_)
  · have h := (if_pos cc_1).symm.trans h
    refine lv_iconst (v := (0 : Int32)) hx hb dX1_hasLink_16 (by decide) ?_
    have hq := h
    clear h
    subst hq
    exact k_retZ hx hb hr hlocks (Or.inl rfl) hP hD hS dX1_hasLink_17
  · have h := (if_neg cc_1).symm.trans h
    refine lv_iload_n hx hb dX1_hasLink_4 rfl (lv_at hl 1 rfl) ?_
    refine lv_aload_n hx hb dX1_hasLink_5 rfl (lv_at hl 0 rfl) ?_
    refine va_get (D := D) (ci := 1) (v := .int n_links) (C := RX1) (T := TX1) (N := 8) hx hb hu k_iX1 hown hK hP 0 rfl rfl 1 (by decide) (hu _ u_77) (fun _ h9 => h9) rfl dX1_hasLink_6 ?_
    refine lv_icmp_ge (tgt := 16) hx hb dX1_hasLink_9 (by decide) (fun cc_2 => ?_) (fun cc_2 => ?_)
    · have h := (if_pos cc_2).symm.trans h
      refine lv_iconst (v := (0 : Int32)) hx hb dX1_hasLink_16 (by decide) ?_
      have hq := h
      clear h
      subst hq
      exact k_retZ hx hb hr hlocks (Or.inl rfl) hP hD hS dX1_hasLink_17
    · have h := (if_neg cc_2).symm.trans h
      refine lv_iconst (v := (1 : Int32)) hx hb dX1_hasLink_12 (by decide) ?_
      refine lv_goto (tgt := 17) hx hb dX1_hasLink_13 (by decide) ?_
      have hq := h
      clear h
      subst hq
      exact k_retZ hx hb hr hlocks (Or.inr rfl) hP hD hS dX1_hasLink_17
def f_X1_findLink_b2  : Nat → Int32 → Int32 → Int32 → Int32 → (Nat → Int32) → (Nat → Int32) → Option (Int32)
  | 0, _, _, _, _, _, _ => none
  | n + 1, x1, x2, x3, n_links, n_low, n_high =>
    if n_links ≤ x3 then
      some ((-1 : Int32))
    else
      if inb x3 18 = true then
      if (n_low (Int32.toNatClampNeg x3)) = (if x2 < x1 then x2 else x1) then
        if (n_high (Int32.toNatClampNeg x3)) = (if x1 < x2 then x2 else x1) then
          some (x3)
        else
          (f_X1_findLink_b2 n) x1 x2 (x3 + (1 : Int32)) n_links n_low n_high
      else
        (f_X1_findLink_b2 n) x1 x2 (x3 + (1 : Int32)) n_links n_low n_high
      else none
def f_X1_findLink (p1 : Int32) (p2 : Int32) (n_links : Int32) (n_low : (Nat → Int32)) (n_high : (Nat → Int32)) : Option (Int32) :=
  f_X1_findLink_b2 1000 p1 p2 (0 : Int32) n_links n_low n_high
set_option maxHeartbeats 4000000 in
set_option maxRecDepth 100000 in
theorem c_X1_findLink (l : Launch) (D : va_G) (cI cZ cN : ClassId) (aK aV : Nat → Nat)  (qn : Nat) (qn_low : Nat) (qn_high : Nat) (qn_length : Nat) (n_nodes : Int32) (n_links : Int32) (n_room : Int32) (n_alive : Int32) (n_inMap : Int32) (n_low : (Nat → Int32)) (n_high : (Nat → Int32)) (p1 p2 : Int32) (r : Int32) (h : f_X1_findLink p1 p2 n_links n_low n_high = some r) : CtI l D cI cZ cN aK aV yX1_findLink (k_W yX1_findLink cX1_findLink 4 (some .int)) { frames := 1, cells := 0, slots := 0, locals := 14 } [.ref qn, .int p1, .int p2] [(qn, .inr (1, [.int n_nodes, .int n_links, .int n_room, .int n_alive, .int n_inMap, .ref qn_low, .ref qn_high, .ref qn_length])), (qn_low, .inl (cI, 18, .inl n_low)), (qn_high, .inl (cI, 18, .inl n_high))] r [(qn, .inr (1, [.int n_nodes, .int n_links, .int n_room, .int n_alive, .int n_inMap, .ref qn_low, .ref qn_high, .ref qn_length])), (qn_low, .inl (cI, 18, .inl n_low)), (qn_high, .inl (cI, 18, .inl n_high))] := by
  refine k_startI (by decide) (Nat.le_of_ble_eq_true rfl) ?_
  intro p e s m below meth c A ls hx hb hr hml hown hts hlocks hT hZ hA hP hD hS hl
  have hK := hT.1
  have hu : ∀ w ∈ k_U, w.before ([.ref qn, .int p1, .int p2] : List Value).toArray s = true := fun w h => hts w (List.mem_cons_of_mem _ h)
  have hown : s.vm.findClass RX1 = some m.cls := hown
  have hl : lv_has ls 4 [(0, .ref qn), (1, .int p1), (2, .int p2)] := hl
  unfold f_X1_findLink at h
  have w2 : ∀ (n2 : Nat) (x1 : Int32) (x2 : Int32) (x3 : Int32) (n_links : Int32) (n_low : (Nat → Int32)) (n_high : (Nat → Int32)) (H : Heap) (locs : List Loc) (ls : Array Slot), va_P D vwCl [(qn, .inr (1, [.int n_nodes, .int n_links, .int n_room, .int n_alive, .int n_inMap, .ref qn_low, .ref qn_high, .ref qn_length])), (qn_low, .inl (cI, 18, .inl n_low)), (qn_high, .inl (cI, 18, .inl n_high))] H → va_D A [(qn, .inr (1, [.int n_nodes, .int n_links, .int n_room, .int n_alive, .int n_inMap, .ref qn_low, .ref qn_high, .ref qn_length])), (qn_low, .inl (cI, 18, .inl n_low)), (qn_high, .inl (cI, 18, .inl n_high))] → va_S A s.heap H locs → lv_has ls 4 [(0, .ref qn), (1, .int x1), (2, .int x2), (3, .int x3)] → f_X1_findLink_b2 n2 x1 x2 x3 n_links n_low n_high = some r → W p l e { frames := 1, cells := 0, slots := 0, locals := 14 } s m ([.ref qn, .int p1, .int p2] : List Value).toArray below meth c H locs 0 0 (MQ below (k_QI D r [(qn, .inr (1, [.int n_nodes, .int n_links, .int n_room, .int n_alive, .int n_inMap, .ref qn_low, .ref qn_high, .ref qn_length])), (qn_low, .inl (cI, 18, .inl n_low)), (qn_high, .inl (cI, 18, .inl n_high))] A) ([.ref qn, .int p1, .int p2] : List Value).toArray s 0 0 A) (F0 m 2 ls []) := by
    intro n2
    induction n2 with
    | zero =>
      intro x1 x2 x3 n_links n_low n_high H locs ls hP hD hS hl h
      rw [f_X1_findLink_b2] at h
      cases h
    | succ n2 ih2 =>
      intro x1 x2 x3 n_links n_low n_high H locs ls hP hD hS hl h
      rw [f_X1_findLink_b2] at h
      refine lv_iload_n hx hb dX1_findLink_2 rfl (lv_at hl 3 rfl) ?_
      refine lv_aload_n hx hb dX1_findLink_3 rfl (lv_at hl 0 rfl) ?_
      refine va_get (D := D) (ci := 1) (v := .int n_links) (C := RX1) (T := TX1) (N := 8) hx hb hu k_iX1 hown hK hP 0 rfl rfl 1 (by decide) (hu _ u_77) (fun _ h9 => h9) rfl dX1_findLink_4 ?_
      refine lv_icmp_ge (tgt := 46) hx hb dX1_findLink_7 (by decide) (fun cc_1 => ?_) (fun cc_1 => ?_)
      · have h := (if_pos cc_1).symm.trans h
        refine lv_iconst (v := (-1 : Int32)) hx hb dX1_findLink_46 (by decide) ?_
        have hq := Option.some.inj h
        clear h
        subst hq
        exact k_retI hx hb hr hlocks hP hD hS dX1_findLink_47
      · have h := (if_neg cc_1).symm.trans h
        refine lv_aload_n hx hb dX1_findLink_10 rfl (lv_at hl 0 rfl) ?_
        refine va_get (D := D) (ci := 1) (v := .ref qn_low) (C := RX1) (T := TX1) (N := 8) hx hb hu k_iX1 hown hK hP 0 rfl rfl 5 (by decide) (hu _ u_91) (fun _ h9 => h9) rfl dX1_findLink_11 ?_
        refine lv_iload_n hx hb dX1_findLink_14 rfl (lv_at hl 3 rfl) ?_
        obtain ⟨hin_2, h⟩ := ob_if h
        have hin_2 := inb_in hin_2
        refine va_iald (D := D) hx hb hK hP 1 0 rfl rfl hin_2 dX1_findLink_15 ?_
        refine lv_iload_n hx hb dX1_findLink_16 rfl (lv_at hl 1 rfl) ?_
        refine lv_iload_n hx hb dX1_findLink_17 rfl (lv_at hl 2 rfl) ?_
        refine va_mmin hx hb (hml.trans hl.1.symm) hown (hu _ u_356) (hu _ u_357) (hu _ u_52) (hu _ u_358) (Nat.le_of_ble_eq_true rfl) (Nat.le_of_ble_eq_true rfl) (Nat.zero_le _) (Nat.zero_le _) dX1_findLink_18 ?_
        refine lv_icmp_ne (tgt := 40) hx hb dX1_findLink_21 (by decide) (fun cc_3 => ?_) (fun cc_3 => ?_)
        · have h := (if_neg cc_3).symm.trans h
          refine lv_iinc (v := (x3 + (1 : Int32))) (lv' := [(3, .int (x3 + (1 : Int32))), (0, .ref qn), (1, .int x1), (2, .int x2)]) hx hb dX1_findLink_40 hl (k := 3) rfl rfl (by decide) rfl (fun ls hl => ?_)
          refine lv_goto (tgt := 2) hx hb dX1_findLink_43 (by decide) ?_
          exact ih2 x1 x2 (x3 + (1 : Int32)) n_links n_low n_high _ _ _ hP hD hS (lv_sub hl [1, 2, 3, 0] rfl) h
        · have h := (if_pos cc_3).symm.trans h
          refine lv_aload_n hx hb dX1_findLink_24 rfl (lv_at hl 0 rfl) ?_
          refine va_get (D := D) (ci := 1) (v := .ref qn_high) (C := RX1) (T := TX1) (N := 8) hx hb hu k_iX1 hown hK hP 0 rfl rfl 6 (by decide) (hu _ u_95) (fun _ h9 => h9) rfl dX1_findLink_25 ?_
          refine lv_iload_n hx hb dX1_findLink_28 rfl (lv_at hl 3 rfl) ?_
          refine va_iald (D := D) hx hb hK hP 2 0 rfl rfl hin_2 dX1_findLink_29 ?_
          refine lv_iload_n hx hb dX1_findLink_30 rfl (lv_at hl 1 rfl) ?_
          refine lv_iload_n hx hb dX1_findLink_31 rfl (lv_at hl 2 rfl) ?_
          refine va_mmax hx hb (hml.trans hl.1.symm) hown (hu _ u_359) (hu _ u_360) (hu _ u_52) (hu _ u_361) (Nat.le_of_ble_eq_true rfl) (Nat.le_of_ble_eq_true rfl) (Nat.zero_le _) (Nat.zero_le _) dX1_findLink_32 ?_
          refine lv_icmp_ne (tgt := 40) hx hb dX1_findLink_35 (by decide) (fun cc_4 => ?_) (fun cc_4 => ?_)
          · have h := (if_neg cc_4).symm.trans h
            refine lv_iinc (v := (x3 + (1 : Int32))) (lv' := [(3, .int (x3 + (1 : Int32))), (0, .ref qn), (1, .int x1), (2, .int x2)]) hx hb dX1_findLink_40 hl (k := 3) rfl rfl (by decide) rfl (fun ls hl => ?_)
            refine lv_goto (tgt := 2) hx hb dX1_findLink_43 (by decide) ?_
            exact ih2 x1 x2 (x3 + (1 : Int32)) n_links n_low n_high _ _ _ hP hD hS (lv_sub hl [1, 2, 3, 0] rfl) h
          · have h := (if_pos cc_4).symm.trans h
            refine lv_iload_n hx hb dX1_findLink_38 rfl (lv_at hl 3 rfl) ?_
            have hq := Option.some.inj h
            clear h
            subst hq
            exact k_retI hx hb hr hlocks hP hD hS dX1_findLink_39
  refine lv_iconst (v := (0 : Int32)) hx hb dX1_findLink_0 (by decide) ?_
  refine lv_istore_n (lv' := [(3, .int (0 : Int32)), (0, .ref qn), (1, .int p1), (2, .int p2)]) hx hb dX1_findLink_1 rfl hl (by decide) rfl (fun ls hl => ?_)
  exact w2 1000 p1 p2 (0 : Int32) n_links n_low n_high _ _ _ hP hD hS (lv_sub hl [1, 2, 3, 0] rfl) h
def f_X1_refusalOfLink (p1 : Int32) (p2 : Int32) (p3 : Int32) (n_nodes : Int32) (n_links : Int32) (n_low : (Nat → Int32)) (n_high : (Nat → Int32)) : Option (Int32) :=
  if (f_X1_hasNode p1 n_nodes) = (0 : Int32) then
    some ((-1 : Int32))
  else
    if (f_X1_hasNode p2 n_nodes) = (0 : Int32) then
      some ((-1 : Int32))
    else
      if p1 = p2 then
        some ((-1 : Int32))
      else
        if p3 < (1 : Int32) then
          some ((-1 : Int32))
        else
          if p3 ≤ (9 : Int32) then
            (f_X1_findLink p1 p2 n_links n_low n_high).bind fun r_6 =>
            if r_6 = (-1 : Int32) then
              if n_links < (18 : Int32) then
                some ((0 : Int32))
              else
                some ((-3 : Int32))
            else
              some ((-2 : Int32))
          else
            some ((-1 : Int32))
set_option maxHeartbeats 4000000 in
set_option maxRecDepth 100000 in
theorem c_X1_refusalOfLink (l : Launch) (D : va_G) (cI cZ cN : ClassId) (aK aV : Nat → Nat)  (qn : Nat) (qn_low : Nat) (qn_high : Nat) (qn_length : Nat) (n_nodes : Int32) (n_links : Int32) (n_room : Int32) (n_alive : Int32) (n_inMap : Int32) (n_low : (Nat → Int32)) (n_high : (Nat → Int32)) (p1 p2 p3 : Int32) (r : Int32) (h : f_X1_refusalOfLink p1 p2 p3 n_nodes n_links n_low n_high = some r) : CtI l D cI cZ cN aK aV yX1_refusalOfLink (k_W yX1_refusalOfLink cX1_refusalOfLink 4 (some .int)) { frames := 2, cells := 0, slots := 0, locals := 37 } [.ref qn, .int p1, .int p2, .int p3] [(qn, .inr (1, [.int n_nodes, .int n_links, .int n_room, .int n_alive, .int n_inMap, .ref qn_low, .ref qn_high, .ref qn_length])), (qn_low, .inl (cI, 18, .inl n_low)), (qn_high, .inl (cI, 18, .inl n_high))] r [(qn, .inr (1, [.int n_nodes, .int n_links, .int n_room, .int n_alive, .int n_inMap, .ref qn_low, .ref qn_high, .ref qn_length])), (qn_low, .inl (cI, 18, .inl n_low)), (qn_high, .inl (cI, 18, .inl n_high))] := by
  refine k_startI (by decide) (Nat.le_of_ble_eq_true rfl) ?_
  intro p e s m below meth c A ls hx hb hr hml hown hts hlocks hT hZ hA hP hD hS hl
  have hK := hT.1
  have hu : ∀ w ∈ k_U, w.before ([.ref qn, .int p1, .int p2, .int p3] : List Value).toArray s = true := fun w h => hts w (List.mem_cons_of_mem _ h)
  have hown : s.vm.findClass RX1 = some m.cls := hown
  have hl : lv_has ls 4 [(0, .ref qn), (1, .int p1), (2, .int p2), (3, .int p3)] := hl
  unfold f_X1_refusalOfLink at h
  refine lv_aload_n hx hb dX1_refusalOfLink_0 rfl (lv_at hl 0 rfl) ?_
  refine lv_iload_n hx hb dX1_refusalOfLink_1 rfl (lv_at hl 1 rfl) ?_
  refine k_callVIr (qb := 0) [0] (As := [.int p1]) (rest := []) ⟨hx, hb, hml, hown, hts⟩ hT hZ hA hP hD hS (c_X1_hasNode l D cI cZ cN aK aV qn qn_low qn_high qn_length n_nodes n_links n_room n_alive n_inMap p1 _ rfl) ⟨callB_of 1 hts (k_good u_351) rfl rfl rfl (hu _ u_46) (hu _ u_348) (by decide +kernel) ⟨Nat.le_of_ble_eq_true rfl, Nat.le_of_ble_eq_true rfl⟩, hu _ u_349, hu _ u_350⟩ rfl rfl rfl (by decide) rfl hl.1 rfl (Nat.le_of_ble_eq_true rfl) dX1_refusalOfLink_2 (fun H locs hP hD hS => ?_)
  refine lv_if_eq (tgt := 32) hx hb dX1_refusalOfLink_5 (by decide) (fun cc_1 => ?_) (fun cc_1 => ?_)
  · have h := (if_pos cc_1).symm.trans h
    refine lv_iconst (v := (-1 : Int32)) hx hb dX1_refusalOfLink_32 (by decide) ?_
    have hq := Option.some.inj h
    clear h
    subst hq
    exact k_retI hx hb hr hlocks hP hD hS dX1_refusalOfLink_33
  · have h := (if_neg cc_1).symm.trans h
    refine lv_aload_n hx hb dX1_refusalOfLink_8 rfl (lv_at hl 0 rfl) ?_
    refine lv_iload_n hx hb dX1_refusalOfLink_9 rfl (lv_at hl 2 rfl) ?_
    refine k_callVIr (qb := 0) [0] (As := [.int p2]) (rest := []) ⟨hx, hb, hml, hown, hts⟩ hT hZ hA hP hD hS (c_X1_hasNode l D cI cZ cN aK aV qn qn_low qn_high qn_length n_nodes n_links n_room n_alive n_inMap p2 _ rfl) ⟨callB_of 1 hts (k_good u_351) rfl rfl rfl (hu _ u_46) (hu _ u_348) (by decide +kernel) ⟨Nat.le_of_ble_eq_true rfl, Nat.le_of_ble_eq_true rfl⟩, hu _ u_349, hu _ u_350⟩ rfl rfl rfl (by decide) rfl hl.1 rfl (Nat.le_of_ble_eq_true rfl) dX1_refusalOfLink_10 (fun H locs hP hD hS => ?_)
    refine lv_if_eq (tgt := 32) hx hb dX1_refusalOfLink_13 (by decide) (fun cc_2 => ?_) (fun cc_2 => ?_)
    · have h := (if_pos cc_2).symm.trans h
      refine lv_iconst (v := (-1 : Int32)) hx hb dX1_refusalOfLink_32 (by decide) ?_
      have hq := Option.some.inj h
      clear h
      subst hq
      exact k_retI hx hb hr hlocks hP hD hS dX1_refusalOfLink_33
    · have h := (if_neg cc_2).symm.trans h
      refine lv_iload_n hx hb dX1_refusalOfLink_16 rfl (lv_at hl 1 rfl) ?_
      refine lv_iload_n hx hb dX1_refusalOfLink_17 rfl (lv_at hl 2 rfl) ?_
      refine lv_icmp_eq (tgt := 32) hx hb dX1_refusalOfLink_18 (by decide) (fun cc_3 => ?_) (fun cc_3 => ?_)
      · have h := (if_pos cc_3).symm.trans h
        refine lv_iconst (v := (-1 : Int32)) hx hb dX1_refusalOfLink_32 (by decide) ?_
        have hq := Option.some.inj h
        clear h
        subst hq
        exact k_retI hx hb hr hlocks hP hD hS dX1_refusalOfLink_33
      · have h := (if_neg cc_3).symm.trans h
        refine lv_iload_n hx hb dX1_refusalOfLink_21 rfl (lv_at hl 3 rfl) ?_
        refine lv_iconst (v := (1 : Int32)) hx hb dX1_refusalOfLink_22 (by decide) ?_
        refine lv_icmp_lt (tgt := 32) hx hb dX1_refusalOfLink_23 (by decide) (fun cc_4 => ?_) (fun cc_4 => ?_)
        · have h := (if_pos cc_4).symm.trans h
          refine lv_iconst (v := (-1 : Int32)) hx hb dX1_refusalOfLink_32 (by decide) ?_
          have hq := Option.some.inj h
          clear h
          subst hq
          exact k_retI hx hb hr hlocks hP hD hS dX1_refusalOfLink_33
        · have h := (if_neg cc_4).symm.trans h
          refine lv_iload_n hx hb dX1_refusalOfLink_26 rfl (lv_at hl 3 rfl) ?_
          refine lv_bipush (v := (9 : Int32)) hx hb dX1_refusalOfLink_27 (by decide) ?_
          refine lv_icmp_le (tgt := 34) hx hb dX1_refusalOfLink_29 (by decide) (fun cc_5 => ?_) (fun cc_5 => ?_)
          · have h := (if_pos cc_5).symm.trans h
            refine lv_aload_n hx hb dX1_refusalOfLink_34 rfl (lv_at hl 0 rfl) ?_
            refine lv_iload_n hx hb dX1_refusalOfLink_35 rfl (lv_at hl 1 rfl) ?_
            refine lv_iload_n hx hb dX1_refusalOfLink_36 rfl (lv_at hl 2 rfl) ?_
            obtain ⟨r_6, hc_7, h⟩ := ob_bind h
            refine k_callVIr (qb := 0) [0, 1, 2] (As := [.int p1, .int p2]) (rest := []) ⟨hx, hb, hml, hown, hts⟩ hT hZ hA hP hD hS (c_X1_findLink l D cI cZ cN aK aV qn qn_low qn_high qn_length n_nodes n_links n_room n_alive n_inMap n_low n_high p1 p2 r_6 hc_7) ⟨callB_of 2 hts (k_good u_355) rfl rfl rfl (hu _ u_46) (hu _ u_352) (by decide +kernel) ⟨Nat.le_of_ble_eq_true rfl, Nat.le_of_ble_eq_true rfl⟩, hu _ u_353, hu _ u_354⟩ rfl rfl rfl (by decide) rfl hl.1 rfl (Nat.le_of_ble_eq_true rfl) dX1_refusalOfLink_37 (fun H locs hP hD hS => ?_)
            refine lv_iconst (v := (-1 : Int32)) hx hb dX1_refusalOfLink_40 (by decide) ?_
            refine lv_icmp_eq (tgt := 47) hx hb dX1_refusalOfLink_41 (by decide) (fun cc_8 => ?_) (fun cc_8 => ?_)
            · have h := (if_pos cc_8).symm.trans h
              refine lv_aload_n hx hb dX1_refusalOfLink_47 rfl (lv_at hl 0 rfl) ?_
              refine va_get (D := D) (ci := 1) (v := .int n_links) (C := RX1) (T := TX1) (N := 8) hx hb hu k_iX1 hown hK hP 0 rfl rfl 1 (by decide) (hu _ u_77) (fun _ h9 => h9) rfl dX1_refusalOfLink_48 ?_
              refine lv_bipush (v := (18 : Int32)) hx hb dX1_refusalOfLink_51 (by decide) ?_
              refine lv_icmp_lt (tgt := 61) hx hb dX1_refusalOfLink_53 (by decide) (fun cc_9 => ?_) (fun cc_9 => ?_)
              · have h := (if_pos cc_9).symm.trans h
                refine lv_iconst (v := (0 : Int32)) hx hb dX1_refusalOfLink_61 (by decide) ?_
                have hq := Option.some.inj h
                clear h
                subst hq
                exact k_retI hx hb hr hlocks hP hD hS dX1_refusalOfLink_62
              · have h := (if_neg cc_9).symm.trans h
                refine lv_bipush (v := (-3 : Int32)) hx hb dX1_refusalOfLink_56 (by decide) ?_
                refine lv_goto (tgt := 62) hx hb dX1_refusalOfLink_58 (by decide) ?_
                have hq := Option.some.inj h
                clear h
                subst hq
                exact k_retI hx hb hr hlocks hP hD hS dX1_refusalOfLink_62
            · have h := (if_neg cc_8).symm.trans h
              refine lv_bipush (v := (-2 : Int32)) hx hb dX1_refusalOfLink_44 (by decide) ?_
              have hq := Option.some.inj h
              clear h
              subst hq
              exact k_retI hx hb hr hlocks hP hD hS dX1_refusalOfLink_46
          · have h := (if_neg cc_5).symm.trans h
            refine lv_iconst (v := (-1 : Int32)) hx hb dX1_refusalOfLink_32 (by decide) ?_
            have hq := Option.some.inj h
            clear h
            subst hq
            exact k_retI hx hb hr hlocks hP hD hS dX1_refusalOfLink_33
