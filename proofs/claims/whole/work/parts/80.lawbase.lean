/-! rows for the law's own calls: as k_call.., at any count of cells -/
section KL
variable {p : Program} {l : Launch} {e : Env} {R : Room} {s : State} {m : MethodId} {args : Array Value} {below : List Frame} {meth : Method} {c : Code} {H : Heap} {locs : List Loc} {cells slots : Nat} {Q : State → Prop} {pc : Nat} {ls : Array Slot} {cc : ByteArray} {D : va_G} {cI cZ cN : ClassId} {aK aV : Nat → Nat} {A : Nat → Prop}
variable {Ts Ws : List Cond} {nL idx n maxL : Nat} {own C : String} {y : MethodName} {bytes : ByteArray} {ret : Option FieldType} {rm : Room} {As st rest : List Value} {b : Nat} {w0 w1 ws : va_W} {r : Int32}
theorem k_lawI (isC js ps : List Nat) (cs : va_W) (S : CallFix p m c cc nL s args Ts own) (hT : k_T D cI cZ cN s) (hZ : k_S aK aV A s s.heap) (hA : ∀ q, s.heap.size ≤ q → A q) (hP : va_P D vwCl ws H) (hD : va_D A ws) (hS : va_S A s.heap H locs)
    (hM : CtI l D cI cZ cN aK aV y Ws rm (.ref b :: As) w0 r w1) (cw : CallW R s args own C idx y bytes maxL ret Ws rm 0 0 n) {ci : Nat} {T : u_T} {N : Nat} {fs : List Value} {qb : Nat} (hci : vwCl[ci]? = some (C, T, N)) (hb0 : w0[qb]? = some (b, .inr (ci, fs)))
    (hC : isC.map (fun i => ws[i]?) = w0.map some) (hnC : va_nd isC = true) (hnj : va_nd js = true) (hnp : va_nd ps = true) (hps : js.map (fun j => isC[j]?) = ps.map some) (hcs : cs.map (fun q => some q.1) = js.map (fun j => (w0[j]?).map (fun q => q.1))) (hw1 : w1 = k_put w0 js cs) (hn : As.length = n) (hsize : ls.size = nL) (hst : st = As.reverse ++ .ref b :: rest) (hW : (rest.map fun v => v.category).sum ≤ 8) (hdg : decode cc pc = .ok (.invokevirtual idx, 3)) (hf : cells + 0 ≤ R.cells ∧ slots + 0 ≤ R.slots)
    (kk : ∀ (H1 : Heap) (locs1 : List Loc), va_P D vwCl (k_put ws ps cs) H1 → va_D A (k_put ws ps cs) → va_S A s.heap H1 locs1 → W p l e R s m args below meth c H1 locs1 cells slots Q (F0 m (pc + 3) ls (.int r :: rest))) : W p l e R s m args below meth c H locs cells slots Q (F0 m pc ls st) := by
  subst hst
  subst hw1
  have hPc := k_Psub hP isC hC
  have hDc := hD.sub isC hnC hC
  have hFc := va_free hD hS hA isC hC
  refine va_calli (va_runV (As := As) (rest := rest) S (hM H.size) cw ⟨k_blind, va_recv hT.1 hPc hci hb0, fun U hU hW => ⟨rfl, by rw [hU], by rw [hU]; exact hPc, hT.warm hW, hDc.weaken (fun _ _ _ _ => trivial), hZ.call hS hFc hU hW⟩⟩ rfl hn hsize rfl (lv_room hW) hdg hf) hS (fun q _ h => hFc q h) hFc (fun r2 u t H1 locs1 ht hvm hw hB hz1 hk1 hS1 => ?_)
  subst hw
  obtain ⟨hP1, hD1⟩ := hB
  rw [ht] at hP1
  obtain ⟨hP2, hD2⟩ := k_back2 hP hD hC hnj hnp hps hcs hk1 hP1
  exact kk H1 locs1 hP2 hD2 hS1
theorem k_lawIr (isC : List Nat) (S : CallFix p m c cc nL s args Ts own) (hT : k_T D cI cZ cN s) (hZ : k_S aK aV A s s.heap) (hA : ∀ q, s.heap.size ≤ q → A q) (hP : va_P D vwCl ws H) (hD : va_D A ws) (hS : va_S A s.heap H locs)
    (hM : CtI l D cI cZ cN aK aV y Ws rm (.ref b :: As) w0 r w0) (cw : CallW R s args own C idx y bytes maxL ret Ws rm 0 0 n) {ci : Nat} {T : u_T} {N : Nat} {fs : List Value} {qb : Nat} (hci : vwCl[ci]? = some (C, T, N)) (hb0 : w0[qb]? = some (b, .inr (ci, fs)))
    (hC : isC.map (fun i => ws[i]?) = w0.map some) (hnC : va_nd isC = true) (hn : As.length = n) (hsize : ls.size = nL) (hst : st = As.reverse ++ .ref b :: rest) (hW : (rest.map fun v => v.category).sum ≤ 8) (hdg : decode cc pc = .ok (.invokevirtual idx, 3)) (hf : cells + 0 ≤ R.cells ∧ slots + 0 ≤ R.slots)
    (kk : ∀ (H1 : Heap) (locs1 : List Loc), va_P D vwCl ws H1 → va_D A ws → va_S A s.heap H1 locs1 → W p l e R s m args below meth c H1 locs1 cells slots Q (F0 m (pc + 3) ls (.int r :: rest))) : W p l e R s m args below meth c H locs cells slots Q (F0 m pc ls st) := by
  subst hst
  have hPc := k_Psub hP isC hC
  have hDc := hD.sub isC hnC hC
  have hFc := va_free hD hS hA isC hC
  refine va_calli (va_runV (As := As) (rest := rest) S (hM H.size) cw ⟨k_blind, va_recv hT.1 hPc hci hb0, fun U hU hW => ⟨rfl, by rw [hU], by rw [hU]; exact hPc, hT.warm hW, hDc.weaken (fun _ _ _ _ => trivial), hZ.call hS hFc hU hW⟩⟩ rfl hn hsize rfl (lv_room hW) hdg hf) hS (fun q _ h => hFc q h) hFc (fun r2 u t H1 locs1 ht hvm hw hB hz1 hk1 hS1 => ?_)
  subst hw
  obtain ⟨hP1, hD1⟩ := hB
  rw [ht] at hP1
  exact kk H1 locs1 (k_same hP hD hC hk1 hP1) hD hS1
theorem k_lawIs (pre : va_W) (S : CallFix p m c cc nL s args Ts own) (hT : k_T D cI cZ cN s) (hZ : k_S aK aV A s s.heap) (hA : ∀ q, s.heap.size ≤ q → A q) (hP : va_P D vwCl ws H) (hD : va_D A ws) (hS : va_S A s.heap H locs)
    (hM : CtI l D cI cZ cN aK aV y Ws rm (.ref b :: As) w0 r w1) (cw : CallW R s args own C idx y bytes maxL ret Ws rm 0 0 n) {ci : Nat} {T : u_T} {N : Nat} {fs : List Value} {qb : Nat} (hci : vwCl[ci]? = some (C, T, N)) (hb0 : w0[qb]? = some (b, .inr (ci, fs)))
    (hws : ws = pre ++ w0) (hn : As.length = n) (hsize : ls.size = nL) (hst : st = As.reverse ++ .ref b :: rest) (hW : (rest.map fun v => v.category).sum ≤ 8) (hdg : decode cc pc = .ok (.invokevirtual idx, 3)) (hf : cells + 0 ≤ R.cells ∧ slots + 0 ≤ R.slots)
    (kk : ∀ (H1 : Heap) (locs1 : List Loc), va_P D vwCl (pre ++ w1) H1 → va_D A (pre ++ w1) → va_S A s.heap H1 locs1 → W p l e R s m args below meth c H1 locs1 cells slots Q (F0 m (pc + 3) ls (.int r :: rest))) : W p l e R s m args below meth c H locs cells slots Q (F0 m pc ls st) := by
  subst hst
  subst hws
  have hC := k_sfx pre w0
  have hnC := k_nd (List.range' pre.length w0.length) List.nodup_range'
  generalize hie : List.range' pre.length w0.length = isC at hC hnC
  have hPc := k_Psub hP isC hC
  have hDc := hD.sub isC hnC hC
  have hFc := va_free hD hS hA isC hC
  refine va_calli (va_runV (As := As) (rest := rest) S (hM H.size) cw ⟨k_blind, va_recv hT.1 hPc hci hb0, fun U hU hW => ⟨rfl, by rw [hU], by rw [hU]; exact hPc, hT.warm hW, hDc.weaken (fun _ _ _ _ => trivial), hZ.call hS hFc hU hW⟩⟩ rfl hn hsize rfl (lv_room hW) hdg hf) hS (fun q _ h => hFc q h) hFc (fun r2 u t H1 locs1 ht hvm hw hB hz1 hk1 hS1 => ?_)
  subst hw
  obtain ⟨hP1, hD1⟩ := hB
  rw [ht] at hP1
  obtain ⟨hP2, hD2⟩ := va_join (wr := pre) hP hD isC (List.range pre.length) hC (k_pfx pre w0) (k_nd _ List.nodup_range) (fun i h1 h2 => by rw [← hie] at h2; simp only [List.mem_range, List.mem_range'_1] at h1 h2; omega) hk1 hFc hP1 hD1
  exact kk H1 locs1 hP2 hD2 hS1
theorem k_lawIg (isC isR : List Nat) (wr : va_W) (S : CallFix p m c cc nL s args Ts own) (hT : k_T D cI cZ cN s) (hZ : k_S aK aV A s s.heap) (hA : ∀ q, s.heap.size ≤ q → A q) (hP : va_P D vwCl ws H) (hD : va_D A ws) (hS : va_S A s.heap H locs)
    (hM : CtI l D cI cZ cN aK aV y Ws rm (.ref b :: As) w0 r w1) (cw : CallW R s args own C idx y bytes maxL ret Ws rm 0 0 n) {ci : Nat} {T : u_T} {N : Nat} {fs : List Value} {qb : Nat} (hci : vwCl[ci]? = some (C, T, N)) (hb0 : w0[qb]? = some (b, .inr (ci, fs)))
    (hC : isC.map (fun i => ws[i]?) = w0.map some) (hnC : va_nd isC = true) (hR : isR.map (fun i => ws[i]?) = wr.map some) (hnR : va_nd isR = true) (hdis : ∀ i ∈ isR, i ∉ isC) (hn : As.length = n) (hsize : ls.size = nL) (hst : st = As.reverse ++ .ref b :: rest) (hW : (rest.map fun v => v.category).sum ≤ 8) (hdg : decode cc pc = .ok (.invokevirtual idx, 3)) (hf : cells + 0 ≤ R.cells ∧ slots + 0 ≤ R.slots)
    (kk : ∀ (H1 : Heap) (locs1 : List Loc), va_P D vwCl (wr ++ w1) H1 → va_D A (wr ++ w1) → va_S A s.heap H1 locs1 → W p l e R s m args below meth c H1 locs1 cells slots Q (F0 m (pc + 3) ls (.int r :: rest))) : W p l e R s m args below meth c H locs cells slots Q (F0 m pc ls st) := by
  subst hst
  have hPc := k_Psub hP isC hC
  have hDc := hD.sub isC hnC hC
  have hFc := va_free hD hS hA isC hC
  refine va_calli (va_runV (As := As) (rest := rest) S (hM H.size) cw ⟨k_blind, va_recv hT.1 hPc hci hb0, fun U hU hW => ⟨rfl, by rw [hU], by rw [hU]; exact hPc, hT.warm hW, hDc.weaken (fun _ _ _ _ => trivial), hZ.call hS hFc hU hW⟩⟩ rfl hn hsize rfl (lv_room hW) hdg hf) hS (fun q _ h => hFc q h) hFc (fun r2 u t H1 locs1 ht hvm hw hB hz1 hk1 hS1 => ?_)
  subst hw
  obtain ⟨hP1, hD1⟩ := hB
  rw [ht] at hP1
  obtain ⟨hP2, hD2⟩ := va_join (wr := wr) hP hD isC isR hC hR hnR hdis hk1 hFc hP1 hD1
  exact kk H1 locs1 hP2 hD2 hS1
theorem k_lawF (isC js ps : List Nat) (cs : va_W) {d0 : Drawn} (hd0 : s.drawn.sameBut d0 lw_cs) (S : CallFix p m c cc nL (s.setDrawn d0) args Ts own) (hT : k_T D cI cZ cN (s.setDrawn d0)) (hZ : k_S aK aV A (s.setDrawn d0) s.heap) (hA : ∀ q, s.heap.size ≤ q → A q) (hP : va_P D vwCl ws H) (hD : va_D A ws) (hS : va_S A s.heap H locs)
    {x : UInt32} (hM : CtF l D cI cZ cN aK aV y Ws rm (.ref b :: As) w0 x w1) (cw : CallW R (s.setDrawn d0) args own C idx y bytes maxL ret Ws rm 0 0 n) {ci : Nat} {T : u_T} {N : Nat} {fs : List Value} {qb : Nat} (hci : vwCl[ci]? = some (C, T, N)) (hb0 : w0[qb]? = some (b, .inr (ci, fs)))
    (hC : isC.map (fun i => ws[i]?) = w0.map some) (hnC : va_nd isC = true) (hnj : va_nd js = true) (hnp : va_nd ps = true) (hps : js.map (fun j => isC[j]?) = ps.map some) (hcs : cs.map (fun q => some q.1) = js.map (fun j => (w0[j]?).map (fun q => q.1))) (hw1 : w1 = k_put w0 js cs) (hn : As.length = n) (hsize : ls.size = nL) (hst : st = As.reverse ++ .ref b :: rest) (hW : (rest.map fun v => v.category).sum ≤ 8) (hdg : decode cc pc = .ok (.invokevirtual idx, 3)) (hf : cells + 0 ≤ R.cells ∧ slots + 0 ≤ R.slots)
    (kk : ∀ (rf : UInt32) (H1 : Heap) (locs1 : List Loc) (d1 : Drawn), alike32 rf x = true → s.drawn.sameBut d1 lw_cs → va_P D vwCl (k_put ws ps cs) H1 → va_D A (k_put ws ps cs) → va_S A s.heap H1 locs1 → W p l e R (s.setDrawn d1) m args below meth c H1 locs1 cells slots Q (F0 m (pc + 3) ls (.float rf :: rest))) : W p l e R (s.setDrawn d0) m args below meth c H locs cells slots Q (F0 m pc ls st) := by
  subst hst
  subst hw1
  have hPc := k_Psub hP isC hC
  have hDc := hD.sub isC hnC hC
  have hFc := va_free hD hS hA isC hC
  refine va_callfD hd0 (va_runV_D (As := As) (rest := rest) S (hM H.size) cw ⟨k_blind, va_recv hT.1 hPc hci hb0, fun U hU hW => ⟨rfl, by rw [hU], by rw [hU]; exact hPc, hT.warm hW, hDc.weaken (fun _ _ _ _ => trivial), k_S.call (s := s.setDrawn d0) hZ hS hFc hU hW⟩⟩ rfl hn hsize rfl (lv_room hW) hdg hf) hS (fun q _ h => hFc q h) hFc (fun r2 u t H1 locs1 ht hvm hw hB hz1 hk1 hS1 d1 hd1 => ?_)
  obtain ⟨hP1, hD1⟩ := hB
  rw [ht] at hP1
  obtain ⟨hP2, hD2⟩ := k_back2 hP hD hC hnj hnp hps hcs hk1 hP1
  exact kk r2 H1 locs1 d1 hw hd1 hP2 hD2 hS1
end KL
theorem k_goodL {y : MethodName} {cc : ByteArray} {n : Nat} {ret : Option FieldType} (h : Cond.code y cc n ret ∈ k_U) : GoodIn lw_tbl (k_W y cc n ret) := by
  intro w hw
  rcases List.mem_cons.mp hw with rfl | h1
  · exact ⟨(List.mem_filter.mp h).1, k_Ug _ h⟩
  · exact ⟨(List.mem_filter.mp h1).1, k_Ug _ h1⟩
abbrev k_wM (cI cZ : ClassId) (qm : Nat) (qm_w : Nat) (qm_past : Nat) (qm_images : Nat) (qm_text : Nat) (qm_may : Nat) (qm_least : Nat) (qm_isCarried : Nat) (qm_list : Nat) (qm_nodes : Nat) (qm_kept : Nat) (qm_keptLow : Nat) (qm_keptHigh : Nat) (qm_keptNodes : Nat) (qm_numbers : Nat) (qm_sums : Nat) (qm_commands : Nat) (qm_held : Nat) (m_w : (Nat → Int32)) (m_past : (Nat → Int32)) (m_pastMany : Int32) (m_images : (Nat → Int32)) (m_filled : Int32) (m_text : (Nat → Int32)) (m_length : Int32) (m_may : (Nat → Int32)) (m_least : (Nat → Int32)) (m_isCarried : (Nat → Int32)) (m_list : (Nat → Int32)) (m_nodes : (Nat → Int32)) (m_listMany : Int32) (m_went : Int32) (m_cost : Int32) (m_cause : Int32) (m_looks : Int32) (m_isSent : Int32) (m_isOld : Int32) (m_kept : (Nat → Int32)) (m_keptLow : (Nat → Int32)) (m_keptHigh : (Nat → Int32)) (m_keptMany : Int32) (m_keptNodes : (Nat → Int32)) (m_numbers : (Nat → Int32)) (m_sums : (Nat → Int32)) (m_commands : (Nat → Int32)) (m_commandMany : Int32) (m_held : (Nat → Int32)) : va_W := [(qm, .inr (6, [.ref qm_w, .ref qm_past, .int m_pastMany, .ref qm_images, .int m_filled, .ref qm_text, .int m_length, .ref qm_may, .ref qm_least, .ref qm_isCarried, .ref qm_list, .ref qm_nodes, .int m_listMany, .int m_went, .int m_cost, .int m_cause, .int m_looks, .int m_isSent, .int m_isOld, .ref qm_kept, .ref qm_keptLow, .ref qm_keptHigh, .int m_keptMany, .ref qm_keptNodes, .ref qm_numbers, .ref qm_sums, .ref qm_commands, .int m_commandMany, .ref qm_held])), (qm_w, .inl (cI, 93, .inl m_w)), (qm_past, .inl (cI, 744, .inl m_past)), (qm_images, .inl (cI, 186, .inl m_images)), (qm_text, .inl (cI, 80, .inl m_text)), (qm_may, .inl (cZ, 18, .inl m_may)), (qm_least, .inl (cI, 9, .inl m_least)), (qm_isCarried, .inl (cZ, 18, .inl m_isCarried)), (qm_list, .inl (cI, 18, .inl m_list)), (qm_nodes, .inl (cI, 41, .inl m_nodes)), (qm_kept, .inl (cI, 18, .inl m_kept)), (qm_keptLow, .inl (cI, 18, .inl m_keptLow)), (qm_keptHigh, .inl (cI, 18, .inl m_keptHigh)), (qm_keptNodes, .inl (cI, 41, .inl m_keptNodes)), (qm_numbers, .inl (cI, 6, .inl m_numbers)), (qm_sums, .inl (cI, 8, .inl m_sums)), (qm_commands, .inl (cI, 320, .inl m_commands)), (qm_held, .inl (cI, 93, .inl m_held))]
abbrev k_wX (cI cZ cN : ClassId) (qx : Nat) (qx_history : Nat) (qx_images : Nat) (qx_kept : Nat) (qn : Nat) (qn_low : Nat) (qn_high : Nat) (qn_length : Nat) (qd : Nat) (qd_low : Nat) (qd_high : Nat) (qd_length : Nat) (qy : Nat) (qy_far : Nat) (qt : Nat) (qt_visited : Nat) (qt_metLow : Nat) (qt_metHigh : Nat) (qv : Nat) (qr : Nat) (qr_visited : Nat) (qr_metLow : Nat) (qr_metHigh : Nat) (qz : Nat) (qz_codes : Nat) (qh : Nat → Nat) (qhl : Nat → Nat) (qhg : Nat → Nat) (qht : Nat → Nat) (qi : Nat → Nat) (qil : Nat → Nat) (qig : Nat → Nat) (qit : Nat → Nat) (x_pi : (Nat → Nat)) (x_undoable : Int32) (x_kept : (Nat → Int32)) (x_letterSent : Int32) (x_letterFits : Int32) (n_nodes : Int32) (n_links : Int32) (n_room : Int32) (n_alive : Int32) (n_inMap : Int32) (n_low : (Nat → Int32)) (n_high : (Nat → Int32)) (n_length : (Nat → Int32)) (d_nodes : Int32) (d_links : Int32) (d_room : Int32) (d_alive : Int32) (d_inMap : Int32) (d_low : (Nat → Int32)) (d_high : (Nat → Int32)) (d_length : (Nat → Int32)) (y_far : (Nat → Int32)) (y_usable : Int32) (t_steps : Int32) (t_cost : Int32) (t_cause : Int32) (t_place : Int32) (t_computed : Int32) (t_list : Int32) (t_listed : Int32) (t_visited : (Nat → Int32)) (t_metLow : (Nat → Int32)) (t_metHigh : (Nat → Int32)) (v_joined : Int32) (v_arrived : Int32) (v_lostInVain : Int32) (v_costs : Int32) (v_trueLengths : Int32) (v_longestList : Int32) (v_longestListArrived : Int32) (v_mostSteps : Int32) (v_dearer : Int32) (r_steps : Int32) (r_cost : Int32) (r_cause : Int32) (r_place : Int32) (r_computed : Int32) (r_list : Int32) (r_listed : Int32) (r_visited : (Nat → Int32)) (r_metLow : (Nat → Int32)) (r_metHigh : (Nat → Int32)) (z_codes : (Nat → Int32)) (z_size : Int32) (z_faultAt : Int32) (z_wordStart : Int32) (z_wordEnd : Int32) (z_kind : Int32) (z_first : Int32) (z_second : Int32) (z_digit : Int32) (h_C : (Nat → NV)) (i_C : (Nat → NV)) : va_W := ([(qd, .inr (1, [.int d_nodes, .int d_links, .int d_room, .int d_alive, .int d_inMap, .ref qd_low, .ref qd_high, .ref qd_length])), (qd_low, .inl (cI, 18, .inl d_low)), (qd_high, .inl (cI, 18, .inl d_high)), (qd_length, .inl (cI, 18, .inl d_length)), (qy, .inr (4, [.ref qn, .ref qy_far, .int y_usable])), (qy_far, .inl (cI, 9, .inl y_far)), (qt, .inr (0, [.ref qn, .ref qy, .int t_steps, .int t_cost, .int t_cause, .int t_place, .int t_computed, .int t_list, .int t_listed, .ref qt_visited, .ref qt_metLow, .ref qt_metHigh])), (qt_visited, .inl (cI, 41, .inl t_visited)), (qt_metLow, .inl (cI, 18, .inl t_metLow)), (qt_metHigh, .inl (cI, 18, .inl t_metHigh)), (qv, .inr (2, [.ref qn, .ref qy, .ref qr, .int v_joined, .int v_arrived, .int v_lostInVain, .int v_costs, .int v_trueLengths, .int v_longestList, .int v_longestListArrived, .int v_mostSteps, .int v_dearer])), (qr, .inr (0, [.ref qn, .ref qy, .int r_steps, .int r_cost, .int r_cause, .int r_place, .int r_computed, .int r_list, .int r_listed, .ref qr_visited, .ref qr_metLow, .ref qr_metHigh])), (qr_visited, .inl (cI, 41, .inl r_visited)), (qr_metLow, .inl (cI, 18, .inl r_metLow)), (qr_metHigh, .inl (cI, 18, .inl r_metHigh)), (qz, .inr (3, [.ref qz_codes, .int z_size, .int z_faultAt, .int z_wordStart, .int z_wordEnd, .int z_kind, .int z_first, .int z_second, .int z_digit])), (qz_codes, .inl (cI, 80, .inl z_codes)), (qx_images, .inl (cN, 2, .inr (.inr (.inr (.inr (fun j => some (qi j))))))), (qx_kept, .inl (cZ, 2, .inl x_kept))] ++ (k_ic cI qi qil qig qit i_C ++ ([(qx, .inr (5, [.ref qn, .ref qd, .ref qx_history, .int x_undoable, .ref qx_images, .ref qx_kept, .ref qy, .ref qt, .int x_letterSent, .int x_letterFits, .ref qv, .ref qz])), (qx_history, .inl (cN, 8, .inr (.inr (.inr (.inr (fun j => some (qh (x_pi j)))))))), (qn, .inr (1, [.int n_nodes, .int n_links, .int n_room, .int n_alive, .int n_inMap, .ref qn_low, .ref qn_high, .ref qn_length])), (qn_low, .inl (cI, 18, .inl n_low)), (qn_high, .inl (cI, 18, .inl n_high)), (qn_length, .inl (cI, 18, .inl n_length))] ++ k_hc cI qh qhl qhg qht h_C)))
