set_option maxHeartbeats 8000000 in
set_option maxRecDepth 100000 in
theorem law_loop {p : Program} {l : Launch} {e : Env} {s : State} {m : MethodId} {below : List Frame} {meth : Method} {c : Code} {D : va_G} {cI cZ cN : ClassId} {aK aV : Nat → Nat} {A : Nat → Prop} {b L : Nat} {xs : Nat → Int32} {qm : Nat} {qm_w : Nat} {qm_past : Nat} {qm_images : Nat} {qm_text : Nat} {qm_may : Nat} {qm_least : Nat} {qm_isCarried : Nat} {qm_list : Nat} {qm_nodes : Nat} {qm_kept : Nat} {qm_keptLow : Nat} {qm_keptHigh : Nat} {qm_keptNodes : Nat} {qm_numbers : Nat} {qm_sums : Nat} {qm_commands : Nat} {qm_held : Nat} {qx : Nat} {qx_history : Nat} {qx_images : Nat} {qx_kept : Nat} {qn : Nat} {qn_low : Nat} {qn_high : Nat} {qn_length : Nat} {qd : Nat} {qd_low : Nat} {qd_high : Nat} {qd_length : Nat} {qy : Nat} {qy_far : Nat} {qt : Nat} {qt_visited : Nat} {qt_metLow : Nat} {qt_metHigh : Nat} {qv : Nat} {qr : Nat} {qr_visited : Nat} {qr_metLow : Nat} {qr_metHigh : Nat} {qz : Nat} {qz_codes : Nat} {qh : Nat → Nat} {qhl : Nat → Nat} {qhg : Nat → Nat} {qht : Nat → Nat} {qi : Nat → Nat} {qil : Nat → Nat} {qig : Nat → Nat} {qit : Nat → Nat} (hL : L ≤ 2048) (E : k_LE p s m c b L xs D cI cZ cN aK aV A) (hr : meth.sig.returnType = ret) (hlocks : meth.locks = false) (hAs : ∀ q, A q → s.heap.size ≤ q) : ∀ (n i : Nat), L ≤ i + n → i ≤ L + 3 → ∀ (H : Heap) (locs : List Loc) (ls : Array Slot) (d0 : Drawn), s.drawn.sameBut d0 lw_cs → Good D cI cZ cN A qm qm_w qm_past qm_images qm_text qm_may qm_least qm_isCarried qm_list qm_nodes qm_kept qm_keptLow qm_keptHigh qm_keptNodes qm_numbers qm_sums qm_commands qm_held qx qx_history qx_images qx_kept qn qn_low qn_high qn_length qd qd_low qd_high qd_length qy qy_far qt qt_visited qt_metLow qt_metHigh qv qr qr_visited qr_metLow qr_metHigh qz qz_codes qh qhl qhg qht qi qil qig qit H → va_S A s.heap H locs → lv_has ls 8 [(3, .int (nI i)), (2, .ref qm), (1, .ref qx), (0, .ref b)] → W p l e room_1 (s.setDrawn d0) m #[Value.ref b] below meth c H locs 83 2817 (lw_Z below #[Value.ref b] s) (F0 m 18 ls []) := by
  intro n
  induction n with
  | zero =>
    intro i hin hib H locs ls d0 hd0 hG hS hl
    obtain ⟨hx, hb, hml, hown, hts, hX, hbl, hT, hZ, hA, hbA⟩ := E.dr d0
    refine lv_iload_n hx hb dL_law_18 rfl (lv_at hl 0 rfl) ?_
    refine lv_aload_n hx hb dL_law_19 rfl (lv_at hl 3 rfl) ?_
    refine va_slen hx hb hX hbl hbA hS dL_law_20 ?_
    refine lv_iconst (v := (4 : Int32)) hx hb dL_law_21 (by decide) ?_
    refine lv_isub hx hb dL_law_22 ?_
    refine lv_icmp_gt (tgt := 836) hx hb dL_law_23 (by decide) (fun _ => ?_) (fun h9 => absurd ((k_loopc hL (by omega)).mpr (show L < i + 4 by omega)) h9)
    refine lv_iconst (v := (1 : Int32)) hx hb dL_law_836 (by decide) ?_
    refine va_forget (fun q h => hAs _ (hS.2.2 q h)) ?_
    refine W.widen (k := 600000) (n := 7302250) (Nat.le_of_ble_eq_true rfl) (Nat.le_of_ble_eq_true rfl) ?_
    exact lw_ret hd0 hx hb hr hlocks dL_law_837
  | succ n ih =>
    intro i hin hib H locs ls d0 hd0 hG hS hl
    obtain ⟨hx, hb, hml, hown, hts, hX, hbl, hT, hZ, hA, hbA⟩ := E.dr d0
    have hcs : 83 + 0 ≤ room_1.cells ∧ 2817 + 0 ≤ room_1.slots := ⟨Nat.le_of_ble_eq_true rfl, Nat.le_of_ble_eq_true rfl⟩
    refine lv_iload_n hx hb dL_law_18 rfl (lv_at hl 0 rfl) ?_
    refine lv_aload_n hx hb dL_law_19 rfl (lv_at hl 3 rfl) ?_
    refine va_slen hx hb hX hbl hbA hS dL_law_20 ?_
    refine lv_iconst (v := (4 : Int32)) hx hb dL_law_21 (by decide) ?_
    refine lv_isub hx hb dL_law_22 ?_
    refine lv_icmp_gt (tgt := 836) hx hb dL_law_23 (by decide) (fun _ => ?_) (fun h9 => ?_)
    · refine lv_iconst (v := (1 : Int32)) hx hb dL_law_836 (by decide) ?_
      refine va_forget (fun q h => hAs _ (hS.2.2 q h)) ?_
      refine W.widen (k := 600000) (n := 7302250) (Nat.le_of_ble_eq_true rfl) (Nat.le_of_ble_eq_true rfl) ?_
      exact lw_ret hd0 hx hb hr hlocks dL_law_837
    have hi4 : i + 3 < L := by
      have h8 : ¬ L < i + 4 := fun q => h9 ((k_loopc hL (by omega)).mpr q)
      omega
    have go : ∀ (H : Heap) (locs : List Loc) (ls : Array Slot) (d1 : Drawn), s.drawn.sameBut d1 lw_cs → Good D cI cZ cN A qm qm_w qm_past qm_images qm_text qm_may qm_least qm_isCarried qm_list qm_nodes qm_kept qm_keptLow qm_keptHigh qm_keptNodes qm_numbers qm_sums qm_commands qm_held qx qx_history qx_images qx_kept qn qn_low qn_high qn_length qd qd_low qd_high qd_length qy qy_far qt qt_visited qt_metLow qt_metHigh qv qr qr_visited qr_metLow qr_metHigh qz qz_codes qh qhl qhg qht qi qil qig qit H → va_S A s.heap H locs → lv_has ls 8 [(3, .int (nI i)), (2, .ref qm), (1, .ref qx), (0, .ref b)] → W p l e room_1 (s.setDrawn d1) m #[Value.ref b] below meth c H locs 83 2817 (lw_Z below #[Value.ref b] s) (F0 m 830 ls []) := by
      intro H locs ls d1 hd1 hG hS hl
      refine lv_iinc (v := nI (i + 4)) (lv' := [(3, .int (nI (i + 4))), (2, .ref qm), (1, .ref qx), (0, .ref b)]) hx hb dL_law_830 hl (k := 0) rfl (by rw [show Int32.ofInt 4 = nI 4 by decide +kernel]; exact n_add i 4) (by decide) rfl (fun ls hl => ?_)
      refine lv_goto (tgt := 18) hx hb dL_law_833 (by decide) ?_
      exact ih (i + 4) (by omega) (by omega) H locs ls d1 hd1 hG hS hl
    clear ih
    refine lv_aload_n hx hb dL_law_26 rfl (lv_at hl 3 rfl) ?_
    refine lv_iload_n hx hb dL_law_27 rfl (lv_at hl 0 rfl) ?_
    refine va_sld hx hb hX hbl hbA hS (k_vin0 (by omega) hL) dL_law_28 ?_
    refine lv_bipush (v := (31 : Int32)) hx hb dL_law_29 (by decide) ?_
    refine lv_iand hx hb dL_law_31 ?_
    refine lv_topi (fun v ev => ?_)
    clear ev
    by_cases w0 : v = 0
    · refine lv_tableIn (tgt := 152) hx hb dL_law_32 (by rw [w0]; decide) (by rw [w0]; decide) (by rw [w0]; rfl) (by decide) ?_
      exact law_0 (E.dr d0) hi4 hL hcs hG hS hl (fun H locs hG hS => go H locs ls d0 hd0 hG hS hl)
    by_cases w1 : v = 1
    · refine lv_tableIn (tgt := 175) hx hb dL_law_32 (by rw [w1]; decide) (by rw [w1]; decide) (by rw [w1]; rfl) (by decide) ?_
      exact law_1 (E.dr d0) hi4 hL hcs hG hS hl (fun H locs hG hS => go H locs ls d0 hd0 hG hS hl)
    by_cases w2 : v = 2
    · refine lv_tableIn (tgt := 218) hx hb dL_law_32 (by rw [w2]; decide) (by rw [w2]; decide) (by rw [w2]; rfl) (by decide) ?_
      exact law_2 (E.dr d0) hi4 hL hcs hG hS hl (fun H locs hG hS => go H locs ls d0 hd0 hG hS hl)
    by_cases w3 : v = 3
    · refine lv_tableIn (tgt := 241) hx hb dL_law_32 (by rw [w3]; decide) (by rw [w3]; decide) (by rw [w3]; rfl) (by decide) ?_
      exact law_3 (E.dr d0) hi4 hL hcs hG hS hl (fun H locs hG hS => go H locs ls d0 hd0 hG hS hl)
    by_cases w4 : v = 4
    · refine lv_tableIn (tgt := 274) hx hb dL_law_32 (by rw [w4]; decide) (by rw [w4]; decide) (by rw [w4]; rfl) (by decide) ?_
      exact law_4 (E.dr d0) hi4 hL hcs hG hS hl (fun H locs hG hS => go H locs ls d0 hd0 hG hS hl)
    by_cases w5 : v = 5
    · refine lv_tableIn (tgt := 307) hx hb dL_law_32 (by rw [w5]; decide) (by rw [w5]; decide) (by rw [w5]; rfl) (by decide) ?_
      exact law_5 (E.dr d0) hi4 hL hcs hG hS hl (fun H locs hG hS => go H locs ls d0 hd0 hG hS hl)
    by_cases w6 : v = 6
    · refine lv_tableIn (tgt := 320) hx hb dL_law_32 (by rw [w6]; decide) (by rw [w6]; decide) (by rw [w6]; rfl) (by decide) ?_
      exact law_6 (E.dr d0) hi4 hL hcs hG hS hl (fun H locs hG hS => go H locs ls d0 hd0 hG hS hl)
    by_cases w7 : v = 7
    · refine lv_tableIn (tgt := 333) hx hb dL_law_32 (by rw [w7]; decide) (by rw [w7]; decide) (by rw [w7]; rfl) (by decide) ?_
      exact law_7 (E.dr d0) hi4 hL hcs hG hS hl (fun H locs hG hS => go H locs ls d0 hd0 hG hS hl)
    by_cases w8 : v = 8
    · refine lv_tableIn (tgt := 356) hx hb dL_law_32 (by rw [w8]; decide) (by rw [w8]; decide) (by rw [w8]; rfl) (by decide) ?_
      exact law_8 (E.dr d0) hi4 hL hcs hG hS hl (fun H locs hG hS => go H locs ls d0 hd0 hG hS hl)
    by_cases w9 : v = 9
    · refine lv_tableIn (tgt := 369) hx hb dL_law_32 (by rw [w9]; decide) (by rw [w9]; decide) (by rw [w9]; rfl) (by decide) ?_
      exact law_9 (E.dr d0) hi4 hL hcs hG hS hl (fun H locs hG hS => go H locs ls d0 hd0 hG hS hl)
    by_cases w10 : v = 10
    · refine lv_tableIn (tgt := 392) hx hb dL_law_32 (by rw [w10]; decide) (by rw [w10]; decide) (by rw [w10]; rfl) (by decide) ?_
      exact law_10 (E.dr d0) hi4 hL hcs hG hS hl (fun H locs hG hS => go H locs ls d0 hd0 hG hS hl)
    by_cases w11 : v = 11
    · refine lv_tableIn (tgt := 425) hx hb dL_law_32 (by rw [w11]; decide) (by rw [w11]; decide) (by rw [w11]; rfl) (by decide) ?_
      exact law_11 (E.dr d0) hi4 hL hcs hG hS hl (fun H locs hG hS => go H locs ls d0 hd0 hG hS hl)
    by_cases w12 : v = 12
    · refine lv_tableIn (tgt := 458) hx hb dL_law_32 (by rw [w12]; decide) (by rw [w12]; decide) (by rw [w12]; rfl) (by decide) ?_
      exact law_12 (E.dr d0) hi4 hL hcs hG hS hl (fun H locs hG hS => go H locs ls d0 hd0 hG hS hl)
    by_cases w13 : v = 13
    · refine lv_tableIn (tgt := 501) hx hb dL_law_32 (by rw [w13]; decide) (by rw [w13]; decide) (by rw [w13]; rfl) (by decide) ?_
      exact law_13 (E.dr d0) hi4 hL hcs hG hS hl (fun H locs hG hS => go H locs ls d0 hd0 hG hS hl)
    by_cases w14 : v = 14
    · refine lv_tableIn (tgt := 544) hx hb dL_law_32 (by rw [w14]; decide) (by rw [w14]; decide) (by rw [w14]; rfl) (by decide) ?_
      exact law_14 (E.dr d0) hi4 hL hcs hG hS hl (fun H locs hG hS => go H locs ls d0 hd0 hG hS hl)
    by_cases w15 : v = 15
    · refine lv_tableIn (tgt := 567) hx hb dL_law_32 (by rw [w15]; decide) (by rw [w15]; decide) (by rw [w15]; rfl) (by decide) ?_
      exact law_15 (E.dr d0) hi4 hL hcs hG hS hl (fun H locs hG hS => go H locs ls d0 hd0 hG hS hl)
    by_cases w16 : v = 16
    · refine lv_tableIn (tgt := 590) hx hb dL_law_32 (by rw [w16]; decide) (by rw [w16]; decide) (by rw [w16]; rfl) (by decide) ?_
      exact law_16 (E.dr d0) hi4 hL hcs hG hS hl (fun H locs hG hS => go H locs ls d0 hd0 hG hS hl)
    by_cases w17 : v = 17
    · refine lv_tableIn (tgt := 623) hx hb dL_law_32 (by rw [w17]; decide) (by rw [w17]; decide) (by rw [w17]; rfl) (by decide) ?_
      exact law_17 (E.dr d0) hi4 hL hcs hG hS hl (fun H locs hG hS => go H locs ls d0 hd0 hG hS hl)
    by_cases w18 : v = 18
    · refine lv_tableIn (tgt := 656) hx hb dL_law_32 (by rw [w18]; decide) (by rw [w18]; decide) (by rw [w18]; rfl) (by decide) ?_
      exact law_18 hd0 E hi4 hL hcs hG hS hl go
    by_cases w19 : v = 19
    · refine lv_tableIn (tgt := 709) hx hb dL_law_32 (by rw [w19]; decide) (by rw [w19]; decide) (by rw [w19]; rfl) (by decide) ?_
      exact law_19 (E.dr d0) hi4 hL hcs hG hS hl (fun H locs hG hS => go H locs ls d0 hd0 hG hS hl)
    by_cases w20 : v = 20
    · refine lv_tableIn (tgt := 722) hx hb dL_law_32 (by rw [w20]; decide) (by rw [w20]; decide) (by rw [w20]; rfl) (by decide) ?_
      exact law_20 (E.dr d0) hi4 hL hcs hG hS hl (fun H locs hG hS => go H locs ls d0 hd0 hG hS hl)
    by_cases w21 : v = 21
    · refine lv_tableIn (tgt := 745) hx hb dL_law_32 (by rw [w21]; decide) (by rw [w21]; decide) (by rw [w21]; rfl) (by decide) ?_
      exact law_21 (E.dr d0) hi4 hL hcs hG hS hl (fun H locs hG hS => go H locs ls d0 hd0 hG hS hl)
    by_cases w22 : v = 22
    · refine lv_tableIn (tgt := 758) hx hb dL_law_32 (by rw [w22]; decide) (by rw [w22]; decide) (by rw [w22]; rfl) (by decide) ?_
      exact law_22 (E.dr d0) hi4 hL hcs hG hS hl (fun H locs hG hS => go H locs ls d0 hd0 hG hS hl)
    by_cases w23 : v = 23
    · refine lv_tableIn (tgt := 771) hx hb dL_law_32 (by rw [w23]; decide) (by rw [w23]; decide) (by rw [w23]; rfl) (by decide) ?_
      exact law_23 (E.dr d0) hi4 hL hcs hG hS hl (fun H locs hG hS => go H locs ls d0 hd0 hG hS hl)
    by_cases w24 : v = 24
    · refine lv_tableIn (tgt := 784) hx hb dL_law_32 (by rw [w24]; decide) (by rw [w24]; decide) (by rw [w24]; rfl) (by decide) ?_
      exact law_24 (E.dr d0) hi4 hL hcs hG hS hl (fun H locs hG hS => go H locs ls d0 hd0 hG hS hl)
    by_cases w25 : v = 25
    · refine lv_tableIn (tgt := 807) hx hb dL_law_32 (by rw [w25]; decide) (by rw [w25]; decide) (by rw [w25]; rfl) (by decide) ?_
      exact law_25 (E.dr d0) hi4 hL hcs hG hS hl (fun H locs hG hS => go H locs ls d0 hd0 hG hS hl)
    refine lv_tableOut (tgt := 830) hx hb dL_law_32 (k_swo 0 25 (by decide) (by decide) (by intro j h1 h2; rcases (show j = 0 ∨ j = 1 ∨ j = 2 ∨ j = 3 ∨ j = 4 ∨ j = 5 ∨ j = 6 ∨ j = 7 ∨ j = 8 ∨ j = 9 ∨ j = 10 ∨ j = 11 ∨ j = 12 ∨ j = 13 ∨ j = 14 ∨ j = 15 ∨ j = 16 ∨ j = 17 ∨ j = 18 ∨ j = 19 ∨ j = 20 ∨ j = 21 ∨ j = 22 ∨ j = 23 ∨ j = 24 ∨ j = 25 by omega) with rfl | rfl | rfl | rfl | rfl | rfl | rfl | rfl | rfl | rfl | rfl | rfl | rfl | rfl | rfl | rfl | rfl | rfl | rfl | rfl | rfl | rfl | rfl | rfl | rfl | rfl <;> assumption)) (by decide) ?_
    exact go H locs ls d0 hd0 hG hS hl
