/-! stretch: a method that may draw -/
abbrev k_QF (D : va_G) (x : UInt32) (w1 : va_W) (A : Nat → Prop) : Array Value → State → Outcome → State → Prop :=
  va_Qf (fun (r : UInt32) (_ : Unit) => alike32 r x = true) (fun _ t => va_P D vwCl w1 t.heap ∧ va_D A w1) A
def CtF (l : Launch) (D : va_G) (cI cZ cN : ClassId) (aK aV : Nat → Nat) (y : MethodName) (Ws : List Cond) (rm : Room) (av : List Value) (w0 : va_W) (x : UInt32) (w1 : va_W) : Prop :=
  ∀ sz, MetD lw_cs l y Ws rm (k_pre D cI cZ cN aK aV av w0 sz) (k_QF D x w1 (va_A w0 sz)) 0 0 (va_A w0 sz)
theorem k_startF {l : Launch} {D : va_G} {cI cZ cN : ClassId} {aK aV : Nat → Nat} {y : MethodName} {cc : ByteArray} {maxL : Nat} {ret : FieldType} {rm : Room} {av : List Value} {w0 : va_W} {x : UInt32} {w1 : va_W} (hy : plainName y.cls = true) (hn : (lg_sl av).length ≤ maxL)
    (k : ∀ (p : Program) (e : Env) (s : State) (m : MethodId) (below : List Frame) (meth : Method) (c : Code) (A : Nat → Prop) (ls : Array Slot), s.drawn.sameBut s.drawn lw_cs → p.tables.exec = Jvm.exec → c.code = cc → meth.sig.returnType = some ret → c.maxLocals = maxL → s.vm.findClass y.cls = some m.cls → (∀ w ∈ k_W y cc maxL (some ret), w.before av.toArray (s.setDrawn s.drawn) = true) → meth.locks = false → k_T D cI cZ cN (s.setDrawn s.drawn) → k_S aK aV A (s.setDrawn s.drawn) s.heap → (∀ q, s.heap.size ≤ q → A q) → va_P D vwCl w0 s.heap → va_D A w0 → va_S A s.heap s.heap [] → lv_has ls maxL (lv_args 0 av) →
      W p l e rm (s.setDrawn s.drawn) m av.toArray below meth c s.heap [] 0 0 (MQD lw_cs below (k_QF D x w1 A) av.toArray s 0 0 A) (F0 m 0 ls [])) : CtF l D cI cZ cN aK aV y (k_W y cc maxL (some ret)) rm av w0 x w1 := by
  intro sz
  refine MetD.ofW (cc := cc) (maxL := maxL) (ret := some ret) hy rfl ?_
  intro p e s m args below meth c s₁ B hml hv hd0
  obtain ⟨rfl, hsz, hP, hT, hD0, hZ⟩ := hv
  have hts := atoms_spec (ws := k_W y cc maxL (some ret)) B.pre
  have hown : s.vm.findClass y.cls = some m.cls := findClass_of_methodNamed B.named
  subst hsz
  have hD := hD0.self (sz := s.heap.size)
  have hl := lv_entry av (n := maxL) hn
  rw [lg_entry_eq]
  exact k p e s m below meth c (va_A w0 s.heap.size) _ hd0 B.exec B.bytes B.returns hml hown (dr_words hts _) B.notSynchronized (k_T.same (s := s) rfl hT) (k_S.same (u := s) rfl hZ) (fun q h => Or.inr h) hP hD va_S.rf hl
section KF
variable {p : Program} {l : Launch} {e : Env} {R : Room} {s : State} {m : MethodId} {args : Array Value} {below : List Frame} {meth : Method} {c : Code} {H : Heap} {locs : List Loc} {Q : State → Prop} {pc : Nat} {ls : Array Slot} {cc : ByteArray} {D : va_G} {A : Nat → Prop}
theorem k_retF {r x : UInt32} {w1 : va_W} (hx : p.tables.exec = Jvm.exec) (hb : c.code = cc) (hr : meth.sig.returnType = some .float) (hlocks : meth.locks = false) (hal : alike32 r x = true) (hP : va_P D vwCl w1 H) (hD : va_D A w1) (hS : va_S A s.heap H locs) (hdg : decode cc pc = .ok (.freturn, 1)) :
    W p l e R s m args below meth c H locs 0 0 (MQ below (k_QF D x w1 A) args s 0 0 A) (F0 m pc ls [.float r]) :=
  W.fret hx hb hr (fun t ht hW => ⟨⟨r, (), rfl, hal, by rw [ht]; exact hP, hD⟩, hS.F ht⟩) hS.2.2 hdg hlocks
end KF
theorem u_578 : Cond.constantFloat RX5 242 (3212836864 : UInt32) ∈ k_U := k_mem 578 (by decide +kernel) (by decide)
theorem u_974 : Cond.constantFloat RX6 177 (3212836864 : UInt32) ∈ k_U := k_mem 974 (by decide +kernel) (by decide)
def f_X5_stretch_b24  (s0 : Int32) (n_nodes : Int32) (n_links : Int32) (n_room : Int32) (n_alive : Int32) (n_inMap : Int32) (n_low : (Nat → Int32)) (n_high : (Nat → Int32)) (n_length : (Nat → Int32)) (y_far : (Nat → Int32)) (y_usable : Int32) (v_joined : Int32) (v_arrived : Int32) (v_lostInVain : Int32) (v_costs : Int32) (v_trueLengths : Int32) (v_longestList : Int32) (v_longestListArrived : Int32) (v_mostSteps : Int32) (v_dearer : Int32) (r_steps : Int32) (r_cost : Int32) (r_cause : Int32) (r_place : Int32) (r_computed : Int32) (r_list : Int32) (r_listed : Int32) (r_visited : (Nat → Int32)) (r_metLow : (Nat → Int32)) (r_metHigh : (Nat → Int32)) : Option (UInt32 × (Nat → Int32) × Int32 × Int32 × Int32 × Int32 × Int32 × Int32 × Int32 × Int32 × Int32 × Int32 × Int32 × Int32 × Int32 × Int32 × Int32 × Int32 × Int32 × (Nat → Int32) × (Nat → Int32) × (Nat → Int32)) :=
  (f_X2_take s0 n_room v_joined v_arrived v_lostInVain v_costs v_trueLengths v_longestList v_longestListArrived v_mostSteps v_dearer r_steps r_cost r_cause r_place r_computed r_list r_listed r_visited r_metLow r_metHigh y_far y_usable n_nodes n_links n_alive n_inMap n_low n_high n_length).bind fun ⟨o_3, o_4, o_5, o_6, o_7, o_8, o_9, o_10, o_11, o_12, o_13, o_14, o_15, o_16, o_17, o_18, o_19, o_20, o_21, o_22, o_23⟩ =>
  if o_7 = (0 : Int32) then
    some (FP.fconst0, o_22, o_23, o_3, o_4, o_5, o_6, o_7, o_8, o_9, o_10, o_11, o_12, o_13, o_14, o_15, o_16, o_17, o_18, o_19, o_20, o_21)
  else
    some ((FP.fdiv (FP.i2f o_6) (FP.i2f o_7)), o_22, o_23, o_3, o_4, o_5, o_6, o_7, o_8, o_9, o_10, o_11, o_12, o_13, o_14, o_15, o_16, o_17, o_18, o_19, o_20, o_21)
def f_X5_stretch (p1 : Int32) (n_nodes : Int32) (n_links : Int32) (n_room : Int32) (n_alive : Int32) (n_inMap : Int32) (n_low : (Nat → Int32)) (n_high : (Nat → Int32)) (n_length : (Nat → Int32)) (y_far : (Nat → Int32)) (y_usable : Int32) (v_joined : Int32) (v_arrived : Int32) (v_lostInVain : Int32) (v_costs : Int32) (v_trueLengths : Int32) (v_longestList : Int32) (v_longestListArrived : Int32) (v_mostSteps : Int32) (v_dearer : Int32) (r_steps : Int32) (r_cost : Int32) (r_cause : Int32) (r_place : Int32) (r_computed : Int32) (r_list : Int32) (r_listed : Int32) (r_visited : (Nat → Int32)) (r_metLow : (Nat → Int32)) (r_metHigh : (Nat → Int32)) : Option (UInt32 × (Nat → Int32) × Int32 × Int32 × Int32 × Int32 × Int32 × Int32 × Int32 × Int32 × Int32 × Int32 × Int32 × Int32 × Int32 × Int32 × Int32 × Int32 × Int32 × (Nat → Int32) × (Nat → Int32) × (Nat → Int32)) :=
  if (f_X5_isFlag p1) = (0 : Int32) then
    some ((3212836864 : UInt32), y_far, y_usable, v_joined, v_arrived, v_lostInVain, v_costs, v_trueLengths, v_longestList, v_longestListArrived, v_mostSteps, v_dearer, r_steps, r_cost, r_cause, r_place, r_computed, r_list, r_listed, r_visited, r_metLow, r_metHigh)
  else
    if p1 = (1 : Int32) then
      f_X5_stretch_b24  (1 : Int32) n_nodes n_links n_room n_alive n_inMap n_low n_high n_length y_far y_usable v_joined v_arrived v_lostInVain v_costs v_trueLengths v_longestList v_longestListArrived v_mostSteps v_dearer r_steps r_cost r_cause r_place r_computed r_list r_listed r_visited r_metLow r_metHigh
    else
      f_X5_stretch_b24  (0 : Int32) n_nodes n_links n_room n_alive n_inMap n_low n_high n_length y_far y_usable v_joined v_arrived v_lostInVain v_costs v_trueLengths v_longestList v_longestListArrived v_mostSteps v_dearer r_steps r_cost r_cause r_place r_computed r_list r_listed r_visited r_metLow r_metHigh
set_option maxHeartbeats 4000000 in
set_option maxRecDepth 100000 in
theorem c_X5_stretch (l : Launch) (D : va_G) (cI cZ cN : ClassId) (aK aV : Nat → Nat)  (qx : Nat) (qx_history : Nat) (qx_images : Nat) (qx_kept : Nat) (qn : Nat) (qn_low : Nat) (qn_high : Nat) (qn_length : Nat) (qd : Nat) (qy : Nat) (qy_far : Nat) (qt : Nat) (qv : Nat) (qr : Nat) (qr_visited : Nat) (qr_metLow : Nat) (qr_metHigh : Nat) (qz : Nat) (x_undoable : Int32) (x_letterSent : Int32) (x_letterFits : Int32) (n_nodes : Int32) (n_links : Int32) (n_room : Int32) (n_alive : Int32) (n_inMap : Int32) (n_low : (Nat → Int32)) (n_high : (Nat → Int32)) (n_length : (Nat → Int32)) (y_far : (Nat → Int32)) (y_usable : Int32) (v_joined : Int32) (v_arrived : Int32) (v_lostInVain : Int32) (v_costs : Int32) (v_trueLengths : Int32) (v_longestList : Int32) (v_longestListArrived : Int32) (v_mostSteps : Int32) (v_dearer : Int32) (r_steps : Int32) (r_cost : Int32) (r_cause : Int32) (r_place : Int32) (r_computed : Int32) (r_list : Int32) (r_listed : Int32) (r_visited : (Nat → Int32)) (r_metLow : (Nat → Int32)) (r_metHigh : (Nat → Int32)) (p1 : Int32) (r : UInt32) (z_y_far : (Nat → Int32)) (z_y_usable : Int32) (z_v_joined : Int32) (z_v_arrived : Int32) (z_v_lostInVain : Int32) (z_v_costs : Int32) (z_v_trueLengths : Int32) (z_v_longestList : Int32) (z_v_longestListArrived : Int32) (z_v_mostSteps : Int32) (z_v_dearer : Int32) (z_r_steps : Int32) (z_r_cost : Int32) (z_r_cause : Int32) (z_r_place : Int32) (z_r_computed : Int32) (z_r_list : Int32) (z_r_listed : Int32) (z_r_visited : (Nat → Int32)) (z_r_metLow : (Nat → Int32)) (z_r_metHigh : (Nat → Int32)) (h : f_X5_stretch p1 n_nodes n_links n_room n_alive n_inMap n_low n_high n_length y_far y_usable v_joined v_arrived v_lostInVain v_costs v_trueLengths v_longestList v_longestListArrived v_mostSteps v_dearer r_steps r_cost r_cause r_place r_computed r_list r_listed r_visited r_metLow r_metHigh = some (r, z_y_far, z_y_usable, z_v_joined, z_v_arrived, z_v_lostInVain, z_v_costs, z_v_trueLengths, z_v_longestList, z_v_longestListArrived, z_v_mostSteps, z_v_dearer, z_r_steps, z_r_cost, z_r_cause, z_r_place, z_r_computed, z_r_list, z_r_listed, z_r_visited, z_r_metLow, z_r_metHigh)) : CtF l D cI cZ cN aK aV yX5_stretch (k_W yX5_stretch cX5_stretch 2 (some .float)) { frames := 6, cells := 0, slots := 0, locals := 147 } [.ref qx, .int p1] [(qy, .inr (4, [.ref qn, .ref qy_far, .int y_usable])), (qy_far, .inl (cI, 9, .inl y_far)), (qv, .inr (2, [.ref qn, .ref qy, .ref qr, .int v_joined, .int v_arrived, .int v_lostInVain, .int v_costs, .int v_trueLengths, .int v_longestList, .int v_longestListArrived, .int v_mostSteps, .int v_dearer])), (qr, .inr (0, [.ref qn, .ref qy, .int r_steps, .int r_cost, .int r_cause, .int r_place, .int r_computed, .int r_list, .int r_listed, .ref qr_visited, .ref qr_metLow, .ref qr_metHigh])), (qr_visited, .inl (cI, 41, .inl r_visited)), (qr_metLow, .inl (cI, 18, .inl r_metLow)), (qr_metHigh, .inl (cI, 18, .inl r_metHigh)), (qx, .inr (5, [.ref qn, .ref qd, .ref qx_history, .int x_undoable, .ref qx_images, .ref qx_kept, .ref qy, .ref qt, .int x_letterSent, .int x_letterFits, .ref qv, .ref qz])), (qn, .inr (1, [.int n_nodes, .int n_links, .int n_room, .int n_alive, .int n_inMap, .ref qn_low, .ref qn_high, .ref qn_length])), (qn_low, .inl (cI, 18, .inl n_low)), (qn_high, .inl (cI, 18, .inl n_high)), (qn_length, .inl (cI, 18, .inl n_length))] r [(qy, .inr (4, [.ref qn, .ref qy_far, .int z_y_usable])), (qy_far, .inl (cI, 9, .inl z_y_far)), (qv, .inr (2, [.ref qn, .ref qy, .ref qr, .int z_v_joined, .int z_v_arrived, .int z_v_lostInVain, .int z_v_costs, .int z_v_trueLengths, .int z_v_longestList, .int z_v_longestListArrived, .int z_v_mostSteps, .int z_v_dearer])), (qr, .inr (0, [.ref qn, .ref qy, .int z_r_steps, .int z_r_cost, .int z_r_cause, .int z_r_place, .int z_r_computed, .int z_r_list, .int z_r_listed, .ref qr_visited, .ref qr_metLow, .ref qr_metHigh])), (qr_visited, .inl (cI, 41, .inl z_r_visited)), (qr_metLow, .inl (cI, 18, .inl z_r_metLow)), (qr_metHigh, .inl (cI, 18, .inl z_r_metHigh)), (qx, .inr (5, [.ref qn, .ref qd, .ref qx_history, .int x_undoable, .ref qx_images, .ref qx_kept, .ref qy, .ref qt, .int x_letterSent, .int x_letterFits, .ref qv, .ref qz])), (qn, .inr (1, [.int n_nodes, .int n_links, .int n_room, .int n_alive, .int n_inMap, .ref qn_low, .ref qn_high, .ref qn_length])), (qn_low, .inl (cI, 18, .inl n_low)), (qn_high, .inl (cI, 18, .inl n_high)), (qn_length, .inl (cI, 18, .inl n_length))] := by
  refine k_startF (by decide) (Nat.le_of_ble_eq_true rfl) ?_
  intro p e s m below meth c A ls hd0 hx hb hr hml hown hts hlocks hT hZ hA hP hD hS hl
  have hK := hT.1
  have hu : ∀ w ∈ k_U, w.before ([.ref qx, .int p1] : List Value).toArray (s.setDrawn s.drawn) = true := fun w h => hts w (List.mem_cons_of_mem _ h)
  have hown : s.vm.findClass RX5 = some m.cls := hown
  have hl : lv_has ls 2 [(0, .ref qx), (1, .int p1)] := hl
  unfold f_X5_stretch at h
  have w24 : ∀  (s0 : Int32) (n_nodes : Int32) (n_links : Int32) (n_room : Int32) (n_alive : Int32) (n_inMap : Int32) (n_low : (Nat → Int32)) (n_high : (Nat → Int32)) (n_length : (Nat → Int32)) (y_far : (Nat → Int32)) (y_usable : Int32) (v_joined : Int32) (v_arrived : Int32) (v_lostInVain : Int32) (v_costs : Int32) (v_trueLengths : Int32) (v_longestList : Int32) (v_longestListArrived : Int32) (v_mostSteps : Int32) (v_dearer : Int32) (r_steps : Int32) (r_cost : Int32) (r_cause : Int32) (r_place : Int32) (r_computed : Int32) (r_list : Int32) (r_listed : Int32) (r_visited : (Nat → Int32)) (r_metLow : (Nat → Int32)) (r_metHigh : (Nat → Int32)) (H : Heap) (locs : List Loc) (ls : Array Slot), va_P D vwCl [(qy, .inr (4, [.ref qn, .ref qy_far, .int y_usable])), (qy_far, .inl (cI, 9, .inl y_far)), (qv, .inr (2, [.ref qn, .ref qy, .ref qr, .int v_joined, .int v_arrived, .int v_lostInVain, .int v_costs, .int v_trueLengths, .int v_longestList, .int v_longestListArrived, .int v_mostSteps, .int v_dearer])), (qr, .inr (0, [.ref qn, .ref qy, .int r_steps, .int r_cost, .int r_cause, .int r_place, .int r_computed, .int r_list, .int r_listed, .ref qr_visited, .ref qr_metLow, .ref qr_metHigh])), (qr_visited, .inl (cI, 41, .inl r_visited)), (qr_metLow, .inl (cI, 18, .inl r_metLow)), (qr_metHigh, .inl (cI, 18, .inl r_metHigh)), (qx, .inr (5, [.ref qn, .ref qd, .ref qx_history, .int x_undoable, .ref qx_images, .ref qx_kept, .ref qy, .ref qt, .int x_letterSent, .int x_letterFits, .ref qv, .ref qz])), (qn, .inr (1, [.int n_nodes, .int n_links, .int n_room, .int n_alive, .int n_inMap, .ref qn_low, .ref qn_high, .ref qn_length])), (qn_low, .inl (cI, 18, .inl n_low)), (qn_high, .inl (cI, 18, .inl n_high)), (qn_length, .inl (cI, 18, .inl n_length))] H → va_D A [(qy, .inr (4, [.ref qn, .ref qy_far, .int y_usable])), (qy_far, .inl (cI, 9, .inl y_far)), (qv, .inr (2, [.ref qn, .ref qy, .ref qr, .int v_joined, .int v_arrived, .int v_lostInVain, .int v_costs, .int v_trueLengths, .int v_longestList, .int v_longestListArrived, .int v_mostSteps, .int v_dearer])), (qr, .inr (0, [.ref qn, .ref qy, .int r_steps, .int r_cost, .int r_cause, .int r_place, .int r_computed, .int r_list, .int r_listed, .ref qr_visited, .ref qr_metLow, .ref qr_metHigh])), (qr_visited, .inl (cI, 41, .inl r_visited)), (qr_metLow, .inl (cI, 18, .inl r_metLow)), (qr_metHigh, .inl (cI, 18, .inl r_metHigh)), (qx, .inr (5, [.ref qn, .ref qd, .ref qx_history, .int x_undoable, .ref qx_images, .ref qx_kept, .ref qy, .ref qt, .int x_letterSent, .int x_letterFits, .ref qv, .ref qz])), (qn, .inr (1, [.int n_nodes, .int n_links, .int n_room, .int n_alive, .int n_inMap, .ref qn_low, .ref qn_high, .ref qn_length])), (qn_low, .inl (cI, 18, .inl n_low)), (qn_high, .inl (cI, 18, .inl n_high)), (qn_length, .inl (cI, 18, .inl n_length))] → va_S A s.heap H locs → lv_has ls 2 [(0, .ref qx)] → f_X5_stretch_b24 s0 n_nodes n_links n_room n_alive n_inMap n_low n_high n_length y_far y_usable v_joined v_arrived v_lostInVain v_costs v_trueLengths v_longestList v_longestListArrived v_mostSteps v_dearer r_steps r_cost r_cause r_place r_computed r_list r_listed r_visited r_metLow r_metHigh = some (r, z_y_far, z_y_usable, z_v_joined, z_v_arrived, z_v_lostInVain, z_v_costs, z_v_trueLengths, z_v_longestList, z_v_longestListArrived, z_v_mostSteps, z_v_dearer, z_r_steps, z_r_cost, z_r_cause, z_r_place, z_r_computed, z_r_list, z_r_listed, z_r_visited, z_r_metLow, z_r_metHigh) → W p l e { frames := 6, cells := 0, slots := 0, locals := 147 } (s.setDrawn s.drawn) m ([.ref qx, .int p1] : List Value).toArray below meth c H locs 0 0 (MQD lw_cs below (k_QF D r [(qy, .inr (4, [.ref qn, .ref qy_far, .int z_y_usable])), (qy_far, .inl (cI, 9, .inl z_y_far)), (qv, .inr (2, [.ref qn, .ref qy, .ref qr, .int z_v_joined, .int z_v_arrived, .int z_v_lostInVain, .int z_v_costs, .int z_v_trueLengths, .int z_v_longestList, .int z_v_longestListArrived, .int z_v_mostSteps, .int z_v_dearer])), (qr, .inr (0, [.ref qn, .ref qy, .int z_r_steps, .int z_r_cost, .int z_r_cause, .int z_r_place, .int z_r_computed, .int z_r_list, .int z_r_listed, .ref qr_visited, .ref qr_metLow, .ref qr_metHigh])), (qr_visited, .inl (cI, 41, .inl z_r_visited)), (qr_metLow, .inl (cI, 18, .inl z_r_metLow)), (qr_metHigh, .inl (cI, 18, .inl z_r_metHigh)), (qx, .inr (5, [.ref qn, .ref qd, .ref qx_history, .int x_undoable, .ref qx_images, .ref qx_kept, .ref qy, .ref qt, .int x_letterSent, .int x_letterFits, .ref qv, .ref qz])), (qn, .inr (1, [.int n_nodes, .int n_links, .int n_room, .int n_alive, .int n_inMap, .ref qn_low, .ref qn_high, .ref qn_length])), (qn_low, .inl (cI, 18, .inl n_low)), (qn_high, .inl (cI, 18, .inl n_high)), (qn_length, .inl (cI, 18, .inl n_length))] A) ([.ref qx, .int p1] : List Value).toArray s 0 0 A) (F0 m 24 ls [.int s0, .ref qv]) := by
    intro s0 n_nodes n_links n_room n_alive n_inMap n_low n_high n_length y_far y_usable v_joined v_arrived v_lostInVain v_costs v_trueLengths v_longestList v_longestListArrived v_mostSteps v_dearer r_steps r_cost r_cause r_place r_computed r_list r_listed r_visited r_metLow r_metHigh H locs ls hP hD hS hl h
    unfold f_X5_stretch_b24 at h
    refine lv_aload_n hx hb dX5_stretch_24 rfl (lv_at hl 0 rfl) ?_
    refine va_get (D := D) (ci := 5) (v := .ref qn) (C := RX5) (T := TX5) (N := 12) hx hb hu k_iX5 hown hK hP 7 rfl rfl 0 (by decide) (hu _ u_283) (fun _ h9 => h9) rfl dX5_stretch_25 ?_
    refine va_get (D := D) (ci := 1) (v := .int n_room) (C := RX1) (T := TX1) (N := 8) hx hb hu k_iX1 hown hK hP 8 rfl rfl 2 (by decide) (hu _ u_81) (fun _ h9 => h9) rfl dX5_stretch_28 ?_
    obtain ⟨⟨o_3, o_4, o_5, o_6, o_7, o_8, o_9, o_10, o_11, o_12, o_13, o_14, o_15, o_16, o_17, o_18, o_19, o_20, o_21, o_22, o_23⟩, hc_24, h⟩ := ob_bind h
    dsimp only at h
    refine k_callVV (qb := 0) [2, 3, 4, 5, 6, 0, 1, 8, 9, 10, 11] [0, 1, 2, 3, 4, 5, 6] [2, 3, 4, 5, 6, 0, 1] [(qv, .inr (2, [.ref qn, .ref qy, .ref qr, .int o_3, .int o_4, .int o_5, .int o_6, .int o_7, .int o_8, .int o_9, .int o_10, .int o_11])), (qr, .inr (0, [.ref qn, .ref qy, .int o_12, .int o_13, .int o_14, .int o_15, .int o_16, .int o_17, .int o_18, .ref qr_visited, .ref qr_metLow, .ref qr_metHigh])), (qr_visited, .inl (cI, 41, .inl o_19)), (qr_metLow, .inl (cI, 18, .inl o_20)), (qr_metHigh, .inl (cI, 18, .inl o_21)), (qy, .inr (4, [.ref qn, .ref qy_far, .int o_23])), (qy_far, .inl (cI, 9, .inl o_22))] (As := [.int s0, .int n_room]) (rest := []) ⟨hx, hb, hml, hown, hts⟩ hT hZ hA hP hD hS (c_X2_take l D cI cZ cN aK aV qv qr qr_visited qr_metLow qr_metHigh qy qy_far qn qn_low qn_high qn_length v_joined v_arrived v_lostInVain v_costs v_trueLengths v_longestList v_longestListArrived v_mostSteps v_dearer r_steps r_cost r_cause r_place r_computed r_list r_listed r_visited r_metLow r_metHigh y_far y_usable n_nodes n_links n_room n_alive n_inMap n_low n_high n_length s0 n_room o_3 o_4 o_5 o_6 o_7 o_8 o_9 o_10 o_11 o_12 o_13 o_14 o_15 o_16 o_17 o_18 o_19 o_20 o_21 o_22 o_23 hc_24) ⟨callB_of 2 hts (k_good u_555) rfl rfl rfl (hu _ u_49) (hu _ u_552) (by decide +kernel) ⟨Nat.le_of_ble_eq_true rfl, Nat.le_of_ble_eq_true rfl⟩, hu _ u_553, hu _ u_554⟩ rfl rfl rfl (by decide) (by decide) (by decide) rfl rfl rfl rfl hl.1 rfl (Nat.le_of_ble_eq_true rfl) dX5_stretch_31 (fun H locs hP hD hS => ?_)
    have hP : va_P D vwCl [(qy, .inr (4, [.ref qn, .ref qy_far, .int o_23])), (qy_far, .inl (cI, 9, .inl o_22)), (qv, .inr (2, [.ref qn, .ref qy, .ref qr, .int o_3, .int o_4, .int o_5, .int o_6, .int o_7, .int o_8, .int o_9, .int o_10, .int o_11])), (qr, .inr (0, [.ref qn, .ref qy, .int o_12, .int o_13, .int o_14, .int o_15, .int o_16, .int o_17, .int o_18, .ref qr_visited, .ref qr_metLow, .ref qr_metHigh])), (qr_visited, .inl (cI, 41, .inl o_19)), (qr_metLow, .inl (cI, 18, .inl o_20)), (qr_metHigh, .inl (cI, 18, .inl o_21)), (qx, .inr (5, [.ref qn, .ref qd, .ref qx_history, .int x_undoable, .ref qx_images, .ref qx_kept, .ref qy, .ref qt, .int x_letterSent, .int x_letterFits, .ref qv, .ref qz])), (qn, .inr (1, [.int n_nodes, .int n_links, .int n_room, .int n_alive, .int n_inMap, .ref qn_low, .ref qn_high, .ref qn_length])), (qn_low, .inl (cI, 18, .inl n_low)), (qn_high, .inl (cI, 18, .inl n_high)), (qn_length, .inl (cI, 18, .inl n_length))] H := hP
    have hD : va_D A [(qy, .inr (4, [.ref qn, .ref qy_far, .int o_23])), (qy_far, .inl (cI, 9, .inl o_22)), (qv, .inr (2, [.ref qn, .ref qy, .ref qr, .int o_3, .int o_4, .int o_5, .int o_6, .int o_7, .int o_8, .int o_9, .int o_10, .int o_11])), (qr, .inr (0, [.ref qn, .ref qy, .int o_12, .int o_13, .int o_14, .int o_15, .int o_16, .int o_17, .int o_18, .ref qr_visited, .ref qr_metLow, .ref qr_metHigh])), (qr_visited, .inl (cI, 41, .inl o_19)), (qr_metLow, .inl (cI, 18, .inl o_20)), (qr_metHigh, .inl (cI, 18, .inl o_21)), (qx, .inr (5, [.ref qn, .ref qd, .ref qx_history, .int x_undoable, .ref qx_images, .ref qx_kept, .ref qy, .ref qt, .int x_letterSent, .int x_letterFits, .ref qv, .ref qz])), (qn, .inr (1, [.int n_nodes, .int n_links, .int n_room, .int n_alive, .int n_inMap, .ref qn_low, .ref qn_high, .ref qn_length])), (qn_low, .inl (cI, 18, .inl n_low)), (qn_high, .inl (cI, 18, .inl n_high)), (qn_length, .inl (cI, 18, .inl n_length))] := hD
    refine lv_aload_n hx hb dX5_stretch_34 rfl (lv_at hl 0 rfl) ?_
    refine va_get (D := D) (ci := 5) (v := .ref qv) (C := RX5) (T := TX5) (N := 12) hx hb hu k_iX5 hown hK hP 7 rfl rfl 10 (by decide) (hu _ u_293) (fun _ h9 => h9) rfl dX5_stretch_35 ?_
    refine va_get (D := D) (ci := 2) (v := .int o_7) (C := RX2) (T := TX2) (N := 12) hx hb hu k_iX2 hown hK hP 2 rfl rfl 7 (by decide) (hu _ u_213) (fun _ h9 => h9) rfl dX5_stretch_38 ?_
    refine lv_if_ne (tgt := 46) hx hb dX5_stretch_41 (by decide) (fun cc_25 => ?_) (fun cc_25 => ?_)
    · have h := (if_neg cc_25).symm.trans h
      refine lv_aload_n hx hb dX5_stretch_46 rfl (lv_at hl 0 rfl) ?_
      refine va_get (D := D) (ci := 5) (v := .ref qv) (C := RX5) (T := TX5) (N := 12) hx hb hu k_iX5 hown hK hP 7 rfl rfl 10 (by decide) (hu _ u_293) (fun _ h9 => h9) rfl dX5_stretch_47 ?_
      refine va_get (D := D) (ci := 2) (v := .int o_6) (C := RX2) (T := TX2) (N := 12) hx hb hu k_iX2 hown hK hP 2 rfl rfl 6 (by decide) (hu _ u_211) (fun _ h9 => h9) rfl dX5_stretch_50 ?_
      refine lv_i2f hx hb dX5_stretch_53 ?_
      refine lv_aload_n hx hb dX5_stretch_54 rfl (lv_at hl 0 rfl) ?_
      refine va_get (D := D) (ci := 5) (v := .ref qv) (C := RX5) (T := TX5) (N := 12) hx hb hu k_iX5 hown hK hP 7 rfl rfl 10 (by decide) (hu _ u_293) (fun _ h9 => h9) rfl dX5_stretch_55 ?_
      refine va_get (D := D) (ci := 2) (v := .int o_7) (C := RX2) (T := TX2) (N := 12) hx hb hu k_iX2 hown hK hP 2 rfl rfl 7 (by decide) (hu _ u_213) (fun _ h9 => h9) rfl dX5_stretch_58 ?_
      refine lv_i2f hx hb dX5_stretch_61 ?_
      refine lv_fdiv_any hd0 lw_bits hx hb dX5_stretch_62 (fun rf d1 hal hd1 => ?_)
      have hq := Option.some.inj h
      clear h
      obtain ⟨e0, hq0⟩ := Prod.mk.inj hq
      clear hq
      obtain ⟨e1, hq1⟩ := Prod.mk.inj hq0
      clear hq0
      obtain ⟨e2, hq2⟩ := Prod.mk.inj hq1
      clear hq1
      obtain ⟨e3, hq3⟩ := Prod.mk.inj hq2
      clear hq2
      obtain ⟨e4, hq4⟩ := Prod.mk.inj hq3
      clear hq3
      obtain ⟨e5, hq5⟩ := Prod.mk.inj hq4
      clear hq4
      obtain ⟨e6, hq6⟩ := Prod.mk.inj hq5
      clear hq5
      obtain ⟨e7, hq7⟩ := Prod.mk.inj hq6
      clear hq6
      obtain ⟨e8, hq8⟩ := Prod.mk.inj hq7
      clear hq7
      obtain ⟨e9, hq9⟩ := Prod.mk.inj hq8
      clear hq8
      obtain ⟨e10, hq10⟩ := Prod.mk.inj hq9
      clear hq9
      obtain ⟨e11, hq11⟩ := Prod.mk.inj hq10
      clear hq10
      obtain ⟨e12, hq12⟩ := Prod.mk.inj hq11
      clear hq11
      obtain ⟨e13, hq13⟩ := Prod.mk.inj hq12
      clear hq12
      obtain ⟨e14, hq14⟩ := Prod.mk.inj hq13
      clear hq13
      obtain ⟨e15, hq15⟩ := Prod.mk.inj hq14
      clear hq14
      obtain ⟨e16, hq16⟩ := Prod.mk.inj hq15
      clear hq15
      obtain ⟨e17, hq17⟩ := Prod.mk.inj hq16
      clear hq16
      obtain ⟨e18, hq18⟩ := Prod.mk.inj hq17
      clear hq17
      obtain ⟨e19, hq19⟩ := Prod.mk.inj hq18
      clear hq18
      obtain ⟨e20, hq20⟩ := Prod.mk.inj hq19
      clear hq19
      subst e0
      subst e1
      subst e2
      subst e3
      subst e4
      subst e5
      subst e6
      subst e7
      subst e8
      subst e9
      subst e10
      subst e11
      subst e12
      subst e13
      subst e14
      subst e15
      subst e16
      subst e17
      subst e18
      subst e19
      subst e20
      subst hq20
      refine W.endD hd1 ?_
      exact k_retF hx hb hr hlocks hal hP hD hS dX5_stretch_63
    · have h := (if_pos cc_25).symm.trans h
      refine lv_fconst0 hx hb dX5_stretch_44 ?_
      have hq := Option.some.inj h
      clear h
      obtain ⟨e0, hq0⟩ := Prod.mk.inj hq
      clear hq
      obtain ⟨e1, hq1⟩ := Prod.mk.inj hq0
      clear hq0
      obtain ⟨e2, hq2⟩ := Prod.mk.inj hq1
      clear hq1
      obtain ⟨e3, hq3⟩ := Prod.mk.inj hq2
      clear hq2
      obtain ⟨e4, hq4⟩ := Prod.mk.inj hq3
      clear hq3
      obtain ⟨e5, hq5⟩ := Prod.mk.inj hq4
      clear hq4
      obtain ⟨e6, hq6⟩ := Prod.mk.inj hq5
      clear hq5
      obtain ⟨e7, hq7⟩ := Prod.mk.inj hq6
      clear hq6
      obtain ⟨e8, hq8⟩ := Prod.mk.inj hq7
      clear hq7
      obtain ⟨e9, hq9⟩ := Prod.mk.inj hq8
      clear hq8
      obtain ⟨e10, hq10⟩ := Prod.mk.inj hq9
      clear hq9
      obtain ⟨e11, hq11⟩ := Prod.mk.inj hq10
      clear hq10
      obtain ⟨e12, hq12⟩ := Prod.mk.inj hq11
      clear hq11
      obtain ⟨e13, hq13⟩ := Prod.mk.inj hq12
      clear hq12
      obtain ⟨e14, hq14⟩ := Prod.mk.inj hq13
      clear hq13
      obtain ⟨e15, hq15⟩ := Prod.mk.inj hq14
      clear hq14
      obtain ⟨e16, hq16⟩ := Prod.mk.inj hq15
      clear hq15
      obtain ⟨e17, hq17⟩ := Prod.mk.inj hq16
      clear hq16
      obtain ⟨e18, hq18⟩ := Prod.mk.inj hq17
      clear hq17
      obtain ⟨e19, hq19⟩ := Prod.mk.inj hq18
      clear hq18
      obtain ⟨e20, hq20⟩ := Prod.mk.inj hq19
      clear hq19
      subst e0
      subst e1
      subst e2
      subst e3
      subst e4
      subst e5
      subst e6
      subst e7
      subst e8
      subst e9
      subst e10
      subst e11
      subst e12
      subst e13
      subst e14
      subst e15
      subst e16
      subst e17
      subst e18
      subst e19
      subst e20
      subst hq20
      refine W.endD hd0 ?_
      exact k_retF hx hb hr hlocks (alike32_refl _) hP hD hS dX5_stretch_45
  refine lv_iload_n hx hb dX5_stretch_0 rfl (lv_at hl 1 rfl) ?_
  refine k_call0 (As := [.int p1]) (rest := []) ⟨hx, hb, hml, hown, hts⟩ hT hZ hA hP hD hS (c_X5_isFlag l D cI cZ cN aK aV p1 _ rfl) ⟨callB_of 1 hts (k_good u_390) rfl rfl rfl (hu _ u_45) (hu _ u_388) (by decide +kernel) ⟨Nat.le_of_ble_eq_true rfl, Nat.le_of_ble_eq_true rfl⟩, hu _ u_389⟩ rfl hl.1 rfl (Nat.le_of_ble_eq_true rfl) dX5_stretch_1 (fun H locs hP hD hS => ?_)
  refine lv_if_ne (tgt := 10) hx hb dX5_stretch_4 (by decide) (fun cc_1 => ?_) (fun cc_1 => ?_)
  · have h := (if_neg cc_1).symm.trans h
    refine lv_aload_n hx hb dX5_stretch_10 rfl (lv_at hl 0 rfl) ?_
    refine va_get (D := D) (ci := 5) (v := .ref qv) (C := RX5) (T := TX5) (N := 12) hx hb hu k_iX5 hown hK hP 7 rfl rfl 10 (by decide) (hu _ u_293) (fun _ h9 => h9) rfl dX5_stretch_11 ?_
    refine lv_iload_n hx hb dX5_stretch_14 rfl (lv_at hl 1 rfl) ?_
    refine lv_iconst (v := (1 : Int32)) hx hb dX5_stretch_15 (by decide) ?_
    refine lv_icmp_ne (tgt := 23) hx hb dX5_stretch_16 (by decide) (fun cc_2 => ?_) (fun cc_2 => ?_)
    · have h := (if_neg cc_2).symm.trans h
      refine lv_iconst (v := (0 : Int32)) hx hb dX5_stretch_23 (by decide) ?_
      exact w24 (0 : Int32) n_nodes n_links n_room n_alive n_inMap n_low n_high n_length y_far y_usable v_joined v_arrived v_lostInVain v_costs v_trueLengths v_longestList v_longestListArrived v_mostSteps v_dearer r_steps r_cost r_cause r_place r_computed r_list r_listed r_visited r_metLow r_metHigh _ _ _ hP hD hS (lv_sub hl [0] rfl) h
    · have h := (if_pos cc_2).symm.trans h
      refine lv_iconst (v := (1 : Int32)) hx hb dX5_stretch_19 (by decide) ?_
      refine lv_goto (tgt := 24) hx hb dX5_stretch_20 (by decide) ?_
      exact w24 (1 : Int32) n_nodes n_links n_room n_alive n_inMap n_low n_high n_length y_far y_usable v_joined v_arrived v_lostInVain v_costs v_trueLengths v_longestList v_longestListArrived v_mostSteps v_dearer r_steps r_cost r_cause r_place r_computed r_list r_listed r_visited r_metLow r_metHigh _ _ _ hP hD hS (lv_sub hl [0] rfl) h
  · have h := (if_pos cc_1).symm.trans h
    refine lv_ldcf (v := (3212836864 : UInt32)) hx hb hown (hu _ u_578) dX5_stretch_7 ?_
    have hq := Option.some.inj h
    clear h
    obtain ⟨e0, hq0⟩ := Prod.mk.inj hq
    clear hq
    obtain ⟨e1, hq1⟩ := Prod.mk.inj hq0
    clear hq0
    obtain ⟨e2, hq2⟩ := Prod.mk.inj hq1
    clear hq1
    obtain ⟨e3, hq3⟩ := Prod.mk.inj hq2
    clear hq2
    obtain ⟨e4, hq4⟩ := Prod.mk.inj hq3
    clear hq3
    obtain ⟨e5, hq5⟩ := Prod.mk.inj hq4
    clear hq4
    obtain ⟨e6, hq6⟩ := Prod.mk.inj hq5
    clear hq5
    obtain ⟨e7, hq7⟩ := Prod.mk.inj hq6
    clear hq6
    obtain ⟨e8, hq8⟩ := Prod.mk.inj hq7
    clear hq7
    obtain ⟨e9, hq9⟩ := Prod.mk.inj hq8
    clear hq8
    obtain ⟨e10, hq10⟩ := Prod.mk.inj hq9
    clear hq9
    obtain ⟨e11, hq11⟩ := Prod.mk.inj hq10
    clear hq10
    obtain ⟨e12, hq12⟩ := Prod.mk.inj hq11
    clear hq11
    obtain ⟨e13, hq13⟩ := Prod.mk.inj hq12
    clear hq12
    obtain ⟨e14, hq14⟩ := Prod.mk.inj hq13
    clear hq13
    obtain ⟨e15, hq15⟩ := Prod.mk.inj hq14
    clear hq14
    obtain ⟨e16, hq16⟩ := Prod.mk.inj hq15
    clear hq15
    obtain ⟨e17, hq17⟩ := Prod.mk.inj hq16
    clear hq16
    obtain ⟨e18, hq18⟩ := Prod.mk.inj hq17
    clear hq17
    obtain ⟨e19, hq19⟩ := Prod.mk.inj hq18
    clear hq18
    obtain ⟨e20, hq20⟩ := Prod.mk.inj hq19
    clear hq19
    subst e0
    subst e1
    subst e2
    subst e3
    subst e4
    subst e5
    subst e6
    subst e7
    subst e8
    subst e9
    subst e10
    subst e11
    subst e12
    subst e13
    subst e14
    subst e15
    subst e16
    subst e17
    subst e18
    subst e19
    subst e20
    subst hq20
    refine W.endD hd0 ?_
    exact k_retF hx hb hr hlocks (alike32_refl _) hP hD hS dX5_stretch_9
def f_X6_stretch_b23  (s0 : Int32) (m_w : (Nat → Int32)) (m_may : (Nat → Int32)) (m_least : (Nat → Int32)) (m_isCarried : (Nat → Int32)) (m_list : (Nat → Int32)) (m_nodes : (Nat → Int32)) (m_listMany : Int32) (m_went : Int32) (m_cost : Int32) (m_cause : Int32) (m_looks : Int32) (m_sums : (Nat → Int32)) : Option (UInt32 × (Nat → Int32) × (Nat → Int32) × (Nat → Int32) × (Nat → Int32) × (Nat → Int32) × Int32 × Int32 × Int32 × Int32 × Int32 × (Nat → Int32)) :=
  (f_X6_layAll s0 (m_w (Int32.toNatClampNeg (2 : Int32))) m_w m_may m_least m_isCarried m_list m_nodes m_listMany m_went m_cost m_cause m_looks m_sums).bind fun ⟨o_3, o_4, o_5, o_6, o_7, o_8, o_9, o_10, o_11, o_12, o_13⟩ =>
  if (o_13 (Int32.toNatClampNeg (1 : Int32))) = (0 : Int32) then
    some (FP.fconst0, o_3, o_4, o_5, o_6, o_7, o_8, o_9, o_10, o_11, o_12, o_13)
  else
    some ((FP.fdiv (FP.i2f (o_13 (Int32.toNatClampNeg (3 : Int32)))) (FP.i2f (o_13 (Int32.toNatClampNeg (4 : Int32))))), o_3, o_4, o_5, o_6, o_7, o_8, o_9, o_10, o_11, o_12, o_13)
def f_X6_stretch (p1 : Int32) (m_w : (Nat → Int32)) (m_may : (Nat → Int32)) (m_least : (Nat → Int32)) (m_isCarried : (Nat → Int32)) (m_list : (Nat → Int32)) (m_nodes : (Nat → Int32)) (m_listMany : Int32) (m_went : Int32) (m_cost : Int32) (m_cause : Int32) (m_looks : Int32) (m_sums : (Nat → Int32)) : Option (UInt32 × (Nat → Int32) × (Nat → Int32) × (Nat → Int32) × (Nat → Int32) × (Nat → Int32) × Int32 × Int32 × Int32 × Int32 × Int32 × (Nat → Int32)) :=
  if (f_X6_isIn p1 (0 : Int32) (1 : Int32)) = (0 : Int32) then
    some ((3212836864 : UInt32), m_may, m_least, m_isCarried, m_list, m_nodes, m_listMany, m_went, m_cost, m_cause, m_looks, m_sums)
  else
    if p1 = (1 : Int32) then
      f_X6_stretch_b23  (1 : Int32) m_w m_may m_least m_isCarried m_list m_nodes m_listMany m_went m_cost m_cause m_looks m_sums
    else
      f_X6_stretch_b23  (0 : Int32) m_w m_may m_least m_isCarried m_list m_nodes m_listMany m_went m_cost m_cause m_looks m_sums
set_option maxHeartbeats 4000000 in
set_option maxRecDepth 100000 in
theorem c_X6_stretch (l : Launch) (D : va_G) (cI cZ cN : ClassId) (aK aV : Nat → Nat)  (qm : Nat) (qm_w : Nat) (qm_past : Nat) (qm_images : Nat) (qm_text : Nat) (qm_may : Nat) (qm_least : Nat) (qm_isCarried : Nat) (qm_list : Nat) (qm_nodes : Nat) (qm_kept : Nat) (qm_keptLow : Nat) (qm_keptHigh : Nat) (qm_keptNodes : Nat) (qm_numbers : Nat) (qm_sums : Nat) (qm_commands : Nat) (qm_held : Nat) (m_w : (Nat → Int32)) (m_pastMany : Int32) (m_filled : Int32) (m_length : Int32) (m_may : (Nat → Int32)) (m_least : (Nat → Int32)) (m_isCarried : (Nat → Int32)) (m_list : (Nat → Int32)) (m_nodes : (Nat → Int32)) (m_listMany : Int32) (m_went : Int32) (m_cost : Int32) (m_cause : Int32) (m_looks : Int32) (m_isSent : Int32) (m_isOld : Int32) (m_keptMany : Int32) (m_sums : (Nat → Int32)) (m_commandMany : Int32) (p1 : Int32) (r : UInt32) (z_m_may : (Nat → Int32)) (z_m_least : (Nat → Int32)) (z_m_isCarried : (Nat → Int32)) (z_m_list : (Nat → Int32)) (z_m_nodes : (Nat → Int32)) (z_m_listMany : Int32) (z_m_went : Int32) (z_m_cost : Int32) (z_m_cause : Int32) (z_m_looks : Int32) (z_m_sums : (Nat → Int32)) (h : f_X6_stretch p1 m_w m_may m_least m_isCarried m_list m_nodes m_listMany m_went m_cost m_cause m_looks m_sums = some (r, z_m_may, z_m_least, z_m_isCarried, z_m_list, z_m_nodes, z_m_listMany, z_m_went, z_m_cost, z_m_cause, z_m_looks, z_m_sums)) : CtF l D cI cZ cN aK aV yX6_stretch (k_W yX6_stretch cX6_stretch 2 (some .float)) { frames := 7, cells := 0, slots := 0, locals := 168 } [.ref qm, .int p1] [(qm, .inr (6, [.ref qm_w, .ref qm_past, .int m_pastMany, .ref qm_images, .int m_filled, .ref qm_text, .int m_length, .ref qm_may, .ref qm_least, .ref qm_isCarried, .ref qm_list, .ref qm_nodes, .int m_listMany, .int m_went, .int m_cost, .int m_cause, .int m_looks, .int m_isSent, .int m_isOld, .ref qm_kept, .ref qm_keptLow, .ref qm_keptHigh, .int m_keptMany, .ref qm_keptNodes, .ref qm_numbers, .ref qm_sums, .ref qm_commands, .int m_commandMany, .ref qm_held])), (qm_w, .inl (cI, 93, .inl m_w)), (qm_may, .inl (cZ, 18, .inl m_may)), (qm_least, .inl (cI, 9, .inl m_least)), (qm_isCarried, .inl (cZ, 18, .inl m_isCarried)), (qm_list, .inl (cI, 18, .inl m_list)), (qm_nodes, .inl (cI, 41, .inl m_nodes)), (qm_sums, .inl (cI, 8, .inl m_sums))] r [(qm, .inr (6, [.ref qm_w, .ref qm_past, .int m_pastMany, .ref qm_images, .int m_filled, .ref qm_text, .int m_length, .ref qm_may, .ref qm_least, .ref qm_isCarried, .ref qm_list, .ref qm_nodes, .int z_m_listMany, .int z_m_went, .int z_m_cost, .int z_m_cause, .int z_m_looks, .int m_isSent, .int m_isOld, .ref qm_kept, .ref qm_keptLow, .ref qm_keptHigh, .int m_keptMany, .ref qm_keptNodes, .ref qm_numbers, .ref qm_sums, .ref qm_commands, .int m_commandMany, .ref qm_held])), (qm_w, .inl (cI, 93, .inl m_w)), (qm_may, .inl (cZ, 18, .inl z_m_may)), (qm_least, .inl (cI, 9, .inl z_m_least)), (qm_isCarried, .inl (cZ, 18, .inl z_m_isCarried)), (qm_list, .inl (cI, 18, .inl z_m_list)), (qm_nodes, .inl (cI, 41, .inl z_m_nodes)), (qm_sums, .inl (cI, 8, .inl z_m_sums))] := by
  refine k_startF (by decide) (Nat.le_of_ble_eq_true rfl) ?_
  intro p e s m below meth c A ls hd0 hx hb hr hml hown hts hlocks hT hZ hA hP hD hS hl
  have hK := hT.1
  have hu : ∀ w ∈ k_U, w.before ([.ref qm, .int p1] : List Value).toArray (s.setDrawn s.drawn) = true := fun w h => hts w (List.mem_cons_of_mem _ h)
  have hown : s.vm.findClass RX6 = some m.cls := hown
  have hl : lv_has ls 2 [(0, .ref qm), (1, .int p1)] := hl
  unfold f_X6_stretch at h
  have w23 : ∀  (s0 : Int32) (m_w : (Nat → Int32)) (m_may : (Nat → Int32)) (m_least : (Nat → Int32)) (m_isCarried : (Nat → Int32)) (m_list : (Nat → Int32)) (m_nodes : (Nat → Int32)) (m_listMany : Int32) (m_went : Int32) (m_cost : Int32) (m_cause : Int32) (m_looks : Int32) (m_sums : (Nat → Int32)) (H : Heap) (locs : List Loc) (ls : Array Slot), va_P D vwCl [(qm, .inr (6, [.ref qm_w, .ref qm_past, .int m_pastMany, .ref qm_images, .int m_filled, .ref qm_text, .int m_length, .ref qm_may, .ref qm_least, .ref qm_isCarried, .ref qm_list, .ref qm_nodes, .int m_listMany, .int m_went, .int m_cost, .int m_cause, .int m_looks, .int m_isSent, .int m_isOld, .ref qm_kept, .ref qm_keptLow, .ref qm_keptHigh, .int m_keptMany, .ref qm_keptNodes, .ref qm_numbers, .ref qm_sums, .ref qm_commands, .int m_commandMany, .ref qm_held])), (qm_w, .inl (cI, 93, .inl m_w)), (qm_may, .inl (cZ, 18, .inl m_may)), (qm_least, .inl (cI, 9, .inl m_least)), (qm_isCarried, .inl (cZ, 18, .inl m_isCarried)), (qm_list, .inl (cI, 18, .inl m_list)), (qm_nodes, .inl (cI, 41, .inl m_nodes)), (qm_sums, .inl (cI, 8, .inl m_sums))] H → va_D A [(qm, .inr (6, [.ref qm_w, .ref qm_past, .int m_pastMany, .ref qm_images, .int m_filled, .ref qm_text, .int m_length, .ref qm_may, .ref qm_least, .ref qm_isCarried, .ref qm_list, .ref qm_nodes, .int m_listMany, .int m_went, .int m_cost, .int m_cause, .int m_looks, .int m_isSent, .int m_isOld, .ref qm_kept, .ref qm_keptLow, .ref qm_keptHigh, .int m_keptMany, .ref qm_keptNodes, .ref qm_numbers, .ref qm_sums, .ref qm_commands, .int m_commandMany, .ref qm_held])), (qm_w, .inl (cI, 93, .inl m_w)), (qm_may, .inl (cZ, 18, .inl m_may)), (qm_least, .inl (cI, 9, .inl m_least)), (qm_isCarried, .inl (cZ, 18, .inl m_isCarried)), (qm_list, .inl (cI, 18, .inl m_list)), (qm_nodes, .inl (cI, 41, .inl m_nodes)), (qm_sums, .inl (cI, 8, .inl m_sums))] → va_S A s.heap H locs → lv_has ls 2 [(0, .ref qm)] → f_X6_stretch_b23 s0 m_w m_may m_least m_isCarried m_list m_nodes m_listMany m_went m_cost m_cause m_looks m_sums = some (r, z_m_may, z_m_least, z_m_isCarried, z_m_list, z_m_nodes, z_m_listMany, z_m_went, z_m_cost, z_m_cause, z_m_looks, z_m_sums) → W p l e { frames := 7, cells := 0, slots := 0, locals := 168 } (s.setDrawn s.drawn) m ([.ref qm, .int p1] : List Value).toArray below meth c H locs 0 0 (MQD lw_cs below (k_QF D r [(qm, .inr (6, [.ref qm_w, .ref qm_past, .int m_pastMany, .ref qm_images, .int m_filled, .ref qm_text, .int m_length, .ref qm_may, .ref qm_least, .ref qm_isCarried, .ref qm_list, .ref qm_nodes, .int z_m_listMany, .int z_m_went, .int z_m_cost, .int z_m_cause, .int z_m_looks, .int m_isSent, .int m_isOld, .ref qm_kept, .ref qm_keptLow, .ref qm_keptHigh, .int m_keptMany, .ref qm_keptNodes, .ref qm_numbers, .ref qm_sums, .ref qm_commands, .int m_commandMany, .ref qm_held])), (qm_w, .inl (cI, 93, .inl m_w)), (qm_may, .inl (cZ, 18, .inl z_m_may)), (qm_least, .inl (cI, 9, .inl z_m_least)), (qm_isCarried, .inl (cZ, 18, .inl z_m_isCarried)), (qm_list, .inl (cI, 18, .inl z_m_list)), (qm_nodes, .inl (cI, 41, .inl z_m_nodes)), (qm_sums, .inl (cI, 8, .inl z_m_sums))] A) ([.ref qm, .int p1] : List Value).toArray s 0 0 A) (F0 m 23 ls [.int s0, .ref qm]) := by
    intro s0 m_w m_may m_least m_isCarried m_list m_nodes m_listMany m_went m_cost m_cause m_looks m_sums H locs ls hP hD hS hl h
    unfold f_X6_stretch_b23 at h
    refine lv_aload_n hx hb dX6_stretch_23 rfl (lv_at hl 0 rfl) ?_
    refine va_get (D := D) (ci := 6) (v := .ref qm_w) (C := RX6) (T := TX6) (N := 29) hx hb hu k_iX6 hown hK hP 0 rfl rfl 0 (by decide) (hu _ u_718) (fun _ h9 => h9) rfl dX6_stretch_24 ?_
    refine lv_iconst (v := (2 : Int32)) hx hb dX6_stretch_27 (by decide) ?_
    refine va_iald (D := D) hx hb hK hP 1 0 rfl rfl (inb_in (by decide)) dX6_stretch_28 ?_
    obtain ⟨⟨o_3, o_4, o_5, o_6, o_7, o_8, o_9, o_10, o_11, o_12, o_13⟩, hc_14, h⟩ := ob_bind h
    dsimp only at h
    refine k_callVV (qb := 0) [0, 1, 2, 3, 4, 5, 6, 7] [0, 2, 3, 4, 5, 6, 7] [0, 2, 3, 4, 5, 6, 7] [(qm, .inr (6, [.ref qm_w, .ref qm_past, .int m_pastMany, .ref qm_images, .int m_filled, .ref qm_text, .int m_length, .ref qm_may, .ref qm_least, .ref qm_isCarried, .ref qm_list, .ref qm_nodes, .int o_8, .int o_9, .int o_10, .int o_11, .int o_12, .int m_isSent, .int m_isOld, .ref qm_kept, .ref qm_keptLow, .ref qm_keptHigh, .int m_keptMany, .ref qm_keptNodes, .ref qm_numbers, .ref qm_sums, .ref qm_commands, .int m_commandMany, .ref qm_held])), (qm_may, .inl (cZ, 18, .inl o_3)), (qm_least, .inl (cI, 9, .inl o_4)), (qm_isCarried, .inl (cZ, 18, .inl o_5)), (qm_list, .inl (cI, 18, .inl o_6)), (qm_nodes, .inl (cI, 41, .inl o_7)), (qm_sums, .inl (cI, 8, .inl o_13))] (As := [.int s0, .int (m_w (Int32.toNatClampNeg (2 : Int32)))]) (rest := []) ⟨hx, hb, hml, hown, hts⟩ hT hZ hA hP hD hS (c_X6_layAll l D cI cZ cN aK aV qm qm_w qm_past qm_images qm_text qm_may qm_least qm_isCarried qm_list qm_nodes qm_kept qm_keptLow qm_keptHigh qm_keptNodes qm_numbers qm_sums qm_commands qm_held m_w m_pastMany m_filled m_length m_may m_least m_isCarried m_list m_nodes m_listMany m_went m_cost m_cause m_looks m_isSent m_isOld m_keptMany m_sums m_commandMany s0 (m_w (Int32.toNatClampNeg (2 : Int32))) o_3 o_4 o_5 o_6 o_7 o_8 o_9 o_10 o_11 o_12 o_13 hc_14) ⟨callB_of 2 hts (k_good u_961) rfl rfl rfl (hu _ u_51) (hu _ u_958) (by decide +kernel) ⟨Nat.le_of_ble_eq_true rfl, Nat.le_of_ble_eq_true rfl⟩, hu _ u_960, hu _ u_37⟩ rfl rfl rfl (by decide) (by decide) (by decide) rfl rfl rfl rfl hl.1 rfl (Nat.le_of_ble_eq_true rfl) dX6_stretch_29 (fun H locs hP hD hS => ?_)
    have hP : va_P D vwCl [(qm, .inr (6, [.ref qm_w, .ref qm_past, .int m_pastMany, .ref qm_images, .int m_filled, .ref qm_text, .int m_length, .ref qm_may, .ref qm_least, .ref qm_isCarried, .ref qm_list, .ref qm_nodes, .int o_8, .int o_9, .int o_10, .int o_11, .int o_12, .int m_isSent, .int m_isOld, .ref qm_kept, .ref qm_keptLow, .ref qm_keptHigh, .int m_keptMany, .ref qm_keptNodes, .ref qm_numbers, .ref qm_sums, .ref qm_commands, .int m_commandMany, .ref qm_held])), (qm_w, .inl (cI, 93, .inl m_w)), (qm_may, .inl (cZ, 18, .inl o_3)), (qm_least, .inl (cI, 9, .inl o_4)), (qm_isCarried, .inl (cZ, 18, .inl o_5)), (qm_list, .inl (cI, 18, .inl o_6)), (qm_nodes, .inl (cI, 41, .inl o_7)), (qm_sums, .inl (cI, 8, .inl o_13))] H := hP
    have hD : va_D A [(qm, .inr (6, [.ref qm_w, .ref qm_past, .int m_pastMany, .ref qm_images, .int m_filled, .ref qm_text, .int m_length, .ref qm_may, .ref qm_least, .ref qm_isCarried, .ref qm_list, .ref qm_nodes, .int o_8, .int o_9, .int o_10, .int o_11, .int o_12, .int m_isSent, .int m_isOld, .ref qm_kept, .ref qm_keptLow, .ref qm_keptHigh, .int m_keptMany, .ref qm_keptNodes, .ref qm_numbers, .ref qm_sums, .ref qm_commands, .int m_commandMany, .ref qm_held])), (qm_w, .inl (cI, 93, .inl m_w)), (qm_may, .inl (cZ, 18, .inl o_3)), (qm_least, .inl (cI, 9, .inl o_4)), (qm_isCarried, .inl (cZ, 18, .inl o_5)), (qm_list, .inl (cI, 18, .inl o_6)), (qm_nodes, .inl (cI, 41, .inl o_7)), (qm_sums, .inl (cI, 8, .inl o_13))] := hD
    refine lv_aload_n hx hb dX6_stretch_32 rfl (lv_at hl 0 rfl) ?_
    refine va_get (D := D) (ci := 6) (v := .ref qm_sums) (C := RX6) (T := TX6) (N := 29) hx hb hu k_iX6 hown hK hP 0 rfl rfl 25 (by decide) (hu _ u_743) (fun _ h9 => h9) rfl dX6_stretch_33 ?_
    refine lv_iconst (v := (1 : Int32)) hx hb dX6_stretch_36 (by decide) ?_
    refine va_iald (D := D) hx hb hK hP 7 0 rfl rfl (inb_in (by decide)) dX6_stretch_37 ?_
    refine lv_if_ne (tgt := 45) hx hb dX6_stretch_38 (by decide) (fun cc_15 => ?_) (fun cc_15 => ?_)
    · have h := (if_neg cc_15).symm.trans h
      refine lv_aload_n hx hb dX6_stretch_45 rfl (lv_at hl 0 rfl) ?_
      refine va_get (D := D) (ci := 6) (v := .ref qm_sums) (C := RX6) (T := TX6) (N := 29) hx hb hu k_iX6 hown hK hP 0 rfl rfl 25 (by decide) (hu _ u_743) (fun _ h9 => h9) rfl dX6_stretch_46 ?_
      refine lv_iconst (v := (3 : Int32)) hx hb dX6_stretch_49 (by decide) ?_
      refine va_iald (D := D) hx hb hK hP 7 0 rfl rfl (inb_in (by decide)) dX6_stretch_50 ?_
      refine lv_i2f hx hb dX6_stretch_51 ?_
      refine lv_aload_n hx hb dX6_stretch_52 rfl (lv_at hl 0 rfl) ?_
      refine va_get (D := D) (ci := 6) (v := .ref qm_sums) (C := RX6) (T := TX6) (N := 29) hx hb hu k_iX6 hown hK hP 0 rfl rfl 25 (by decide) (hu _ u_743) (fun _ h9 => h9) rfl dX6_stretch_53 ?_
      refine lv_iconst (v := (4 : Int32)) hx hb dX6_stretch_56 (by decide) ?_
      refine va_iald (D := D) hx hb hK hP 7 0 rfl rfl (inb_in (by decide)) dX6_stretch_57 ?_
      refine lv_i2f hx hb dX6_stretch_58 ?_
      refine lv_fdiv_any hd0 lw_bits hx hb dX6_stretch_59 (fun rf d1 hal hd1 => ?_)
      have hq := Option.some.inj h
      clear h
      obtain ⟨e0, hq0⟩ := Prod.mk.inj hq
      clear hq
      obtain ⟨e1, hq1⟩ := Prod.mk.inj hq0
      clear hq0
      obtain ⟨e2, hq2⟩ := Prod.mk.inj hq1
      clear hq1
      obtain ⟨e3, hq3⟩ := Prod.mk.inj hq2
      clear hq2
      obtain ⟨e4, hq4⟩ := Prod.mk.inj hq3
      clear hq3
      obtain ⟨e5, hq5⟩ := Prod.mk.inj hq4
      clear hq4
      obtain ⟨e6, hq6⟩ := Prod.mk.inj hq5
      clear hq5
      obtain ⟨e7, hq7⟩ := Prod.mk.inj hq6
      clear hq6
      obtain ⟨e8, hq8⟩ := Prod.mk.inj hq7
      clear hq7
      obtain ⟨e9, hq9⟩ := Prod.mk.inj hq8
      clear hq8
      obtain ⟨e10, hq10⟩ := Prod.mk.inj hq9
      clear hq9
      subst e0
      subst e1
      subst e2
      subst e3
      subst e4
      subst e5
      subst e6
      subst e7
      subst e8
      subst e9
      subst e10
      subst hq10
      refine W.endD hd1 ?_
      exact k_retF hx hb hr hlocks hal hP hD hS dX6_stretch_60
    · have h := (if_pos cc_15).symm.trans h
      refine lv_fconst0 hx hb dX6_stretch_41 ?_
      refine lv_goto (tgt := 60) hx hb dX6_stretch_42 (by decide) ?_
      have hq := Option.some.inj h
      clear h
      obtain ⟨e0, hq0⟩ := Prod.mk.inj hq
      clear hq
      obtain ⟨e1, hq1⟩ := Prod.mk.inj hq0
      clear hq0
      obtain ⟨e2, hq2⟩ := Prod.mk.inj hq1
      clear hq1
      obtain ⟨e3, hq3⟩ := Prod.mk.inj hq2
      clear hq2
      obtain ⟨e4, hq4⟩ := Prod.mk.inj hq3
      clear hq3
      obtain ⟨e5, hq5⟩ := Prod.mk.inj hq4
      clear hq4
      obtain ⟨e6, hq6⟩ := Prod.mk.inj hq5
      clear hq5
      obtain ⟨e7, hq7⟩ := Prod.mk.inj hq6
      clear hq6
      obtain ⟨e8, hq8⟩ := Prod.mk.inj hq7
      clear hq7
      obtain ⟨e9, hq9⟩ := Prod.mk.inj hq8
      clear hq8
      obtain ⟨e10, hq10⟩ := Prod.mk.inj hq9
      clear hq9
      subst e0
      subst e1
      subst e2
      subst e3
      subst e4
      subst e5
      subst e6
      subst e7
      subst e8
      subst e9
      subst e10
      subst hq10
      refine W.endD hd0 ?_
      exact k_retF hx hb hr hlocks (alike32_refl _) hP hD hS dX6_stretch_60
  refine lv_iload_n hx hb dX6_stretch_0 rfl (lv_at hl 1 rfl) ?_
  refine lv_iconst (v := (0 : Int32)) hx hb dX6_stretch_1 (by decide) ?_
  refine lv_iconst (v := (1 : Int32)) hx hb dX6_stretch_2 (by decide) ?_
  refine k_call0 (As := [.int p1, .int (0 : Int32), .int (1 : Int32)]) (rest := []) ⟨hx, hb, hml, hown, hts⟩ hT hZ hA hP hD hS (c_X6_isIn l D cI cZ cN aK aV p1 (0 : Int32) (1 : Int32) _ rfl) ⟨callB_of 3 hts (k_good u_812) rfl rfl rfl (hu _ u_51) (hu _ u_810) (by decide +kernel) ⟨Nat.le_of_ble_eq_true rfl, Nat.le_of_ble_eq_true rfl⟩, hu _ u_811⟩ rfl hl.1 rfl (Nat.le_of_ble_eq_true rfl) dX6_stretch_3 (fun H locs hP hD hS => ?_)
  refine lv_if_ne (tgt := 12) hx hb dX6_stretch_6 (by decide) (fun cc_1 => ?_) (fun cc_1 => ?_)
  · have h := (if_neg cc_1).symm.trans h
    refine lv_aload_n hx hb dX6_stretch_12 rfl (lv_at hl 0 rfl) ?_
    refine lv_iload_n hx hb dX6_stretch_13 rfl (lv_at hl 1 rfl) ?_
    refine lv_iconst (v := (1 : Int32)) hx hb dX6_stretch_14 (by decide) ?_
    refine lv_icmp_ne (tgt := 22) hx hb dX6_stretch_15 (by decide) (fun cc_2 => ?_) (fun cc_2 => ?_)
    · have h := (if_neg cc_2).symm.trans h
      refine lv_iconst (v := (0 : Int32)) hx hb dX6_stretch_22 (by decide) ?_
      exact w23 (0 : Int32) m_w m_may m_least m_isCarried m_list m_nodes m_listMany m_went m_cost m_cause m_looks m_sums _ _ _ hP hD hS (lv_sub hl [0] rfl) h
    · have h := (if_pos cc_2).symm.trans h
      refine lv_iconst (v := (1 : Int32)) hx hb dX6_stretch_18 (by decide) ?_
      refine lv_goto (tgt := 23) hx hb dX6_stretch_19 (by decide) ?_
      exact w23 (1 : Int32) m_w m_may m_least m_isCarried m_list m_nodes m_listMany m_went m_cost m_cause m_looks m_sums _ _ _ hP hD hS (lv_sub hl [0] rfl) h
  · have h := (if_pos cc_1).symm.trans h
    refine lv_ldcf (v := (3212836864 : UInt32)) hx hb hown (hu _ u_974) dX6_stretch_9 ?_
    have hq := Option.some.inj h
    clear h
    obtain ⟨e0, hq0⟩ := Prod.mk.inj hq
    clear hq
    obtain ⟨e1, hq1⟩ := Prod.mk.inj hq0
    clear hq0
    obtain ⟨e2, hq2⟩ := Prod.mk.inj hq1
    clear hq1
    obtain ⟨e3, hq3⟩ := Prod.mk.inj hq2
    clear hq2
    obtain ⟨e4, hq4⟩ := Prod.mk.inj hq3
    clear hq3
    obtain ⟨e5, hq5⟩ := Prod.mk.inj hq4
    clear hq4
    obtain ⟨e6, hq6⟩ := Prod.mk.inj hq5
    clear hq5
    obtain ⟨e7, hq7⟩ := Prod.mk.inj hq6
    clear hq6
    obtain ⟨e8, hq8⟩ := Prod.mk.inj hq7
    clear hq7
    obtain ⟨e9, hq9⟩ := Prod.mk.inj hq8
    clear hq8
    obtain ⟨e10, hq10⟩ := Prod.mk.inj hq9
    clear hq9
    subst e0
    subst e1
    subst e2
    subst e3
    subst e4
    subst e5
    subst e6
    subst e7
    subst e8
    subst e9
    subst e10
    subst hq10
    refine W.endD hd0 ?_
    exact k_retF hx hb hr hlocks (alike32_refl _) hP hD hS dX6_stretch_11
