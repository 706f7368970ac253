/-! String.length and charAt over the literals -/
section KSS
variable {p : Program} {l : Launch} {e : Env} {R : Room} {s : State} {m : MethodId} {args : Array Value} {below : List Frame} {meth : Method} {c : Code} {H : Heap} {locs : List Loc} {Q : State → Prop} {pc : Nat} {ls : Array Slot} {cc : ByteArray} {D : va_G} {cI cZ cN : ClassId} {aK aV : Nat → Nat} {A : Nat → Prop}
theorem k_retN {r : Int32} {w1 : va_W} {ty : FieldType} (hx : p.tables.exec = Jvm.exec) (hb : c.code = cc) (hr : meth.sig.returnType = some ty) (hlocks : meth.locks = false) (hn : narrow ty (.int r) = .int r) (hP : va_P D vwCl w1 H) (hD : va_D A w1) (hS : va_S A s.heap H locs) (hdg : decode cc pc = .ok (.ireturn, 1)) :
    W p l e R s m args below meth c H locs 0 0 (MQ below (k_QI D r w1 A) args s 0 0 A) (F0 m pc ls [.int r]) :=
  W.zret hx hb hr hn (fun t ht hW => ⟨⟨r, (), rfl, rfl, by rw [ht]; exact hP, hD⟩, hS.F ht⟩) hS.2.2 hdg hlocks
variable {Ts Ws : List Cond} {nL idx n maxL : Nat} {own C : String} {y : MethodName} {bytes : ByteArray} {ret : Option FieldType} {rm : Room} {As st rest : List Value} {ws : va_W} {r : Int32}
/-- a method of a literal -/
theorem k_callL {i : Nat} (hi : i < 5) (S : CallFix p m c cc nL s args Ts own) (hT : k_T D cI cZ cN s) (hZ : k_S aK aV A s s.heap) (hA : ∀ q, s.heap.size ≤ q → A q) (hP : va_P D vwCl ws H) (hD : va_D A ws) (hS : va_S A s.heap H locs)
    (hM : CtI l D cI cZ cN aK aV y Ws rm (.ref (aK i) :: As) [] r []) (cw : CallW R s args own "java/lang/String" idx y bytes maxL ret Ws rm 0 0 n)
    (hn : As.length = n) (hsize : ls.size = nL) (hst : st = As.reverse ++ .ref (aK i) :: rest) (hW : (rest.map fun v => v.category).sum ≤ 8) (hdg : decode cc pc = .ok (.invokevirtual idx, 3))
    (kk : ∀ (H1 : Heap) (locs1 : List Loc), va_P D vwCl ws H1 → va_D A ws → va_S A s.heap H1 locs1 → W p l e R s m args below meth c H1 locs1 0 0 Q (F0 m (pc + 3) ls (.int r :: rest))) : W p l e R s m args below meth c H locs 0 0 Q (F0 m pc ls st) := by
  subst hst
  have hFc : ∀ q, va_A [] H.size q → A q := va_free (wc := []) hD hS hA [] rfl
  refine va_calli (va_runV (As := As) (rest := rest) S (hM H.size) cw ⟨k_blind, vk_recv hZ.1 hi hS, fun U hU hW => ⟨rfl, by rw [hU], (fun k q h => by simp at h), hT.warm hW, ⟨fun i j p q h => by simp at h, fun k q h => by simp at h⟩, hZ.call hS hFc hU hW⟩⟩ rfl hn hsize rfl (lv_room hW) hdg ⟨Nat.zero_le _, Nat.zero_le _⟩) hS (fun q _ h => hFc q h) hFc (fun r2 u t H1 locs1 ht hvm hw hB hz1 hk1 hS1 => ?_)
  subst hw
  exact kk H1 locs1 (fun k q hq => (hP k q hq).kept (hk1 q.1 (hP k q hq).lt (fun h => by
    rcases h with ⟨k2, e2, h⟩ | h
    · simp at h
    · exact absurd (hP k q hq).lt (Nat.not_lt.mpr h)))) hD hS1
theorem k_call0V (S : CallFix p m c cc nL s args Ts own) (hT : k_T D cI cZ cN s) (hZ : k_S aK aV A s s.heap) (hA : ∀ q, s.heap.size ≤ q → A q) (hP : va_P D vwCl ws H) (hD : va_D A ws) (hS : va_S A s.heap H locs)
    (hM : CtV l D cI cZ cN aK aV y Ws rm As [] []) (cw : CallB R s args own idx y bytes maxL ret Ws rm 0 0 n ∧ (Cond.static y).before args s = true)
    (hn : As.length = n) (hsize : ls.size = nL) (hst : st = As.reverse ++ rest) (hW : (rest.map fun v => v.category).sum ≤ 8) (hdg : decode cc pc = .ok (.invokestatic idx, 3))
    (kk : ∀ (H1 : Heap) (locs1 : List Loc), va_P D vwCl ws H1 → va_D A ws → va_S A s.heap H1 locs1 → W p l e R s m args below meth c H1 locs1 0 0 Q (F0 m (pc + 3) ls rest)) : W p l e R s m args below meth c H locs 0 0 Q (F0 m pc ls st) := by
  subst hst
  have hFc : ∀ q, va_A [] H.size q → A q := va_free (wc := []) hD hS hA [] rfl
  refine va_callv (va_runS (As := As) (rest := rest) S (hM H.size) cw ⟨k_blind, fun U hU hW => ⟨rfl, by rw [hU], (fun k q h => by simp at h), hT.warm hW, ⟨fun i j p q h => by simp at h, fun k q h => by simp at h⟩, hZ.call hS hFc hU hW⟩⟩ rfl hn hsize rfl (lv_room hW) hdg ⟨Nat.zero_le _, Nat.zero_le _⟩) hS (fun q _ h => hFc q h) hFc (fun u t H1 locs1 ht hvm hw hB hz1 hk1 hS1 => ?_)
  exact kk H1 locs1 (fun k q hq => (hP k q hq).kept (hk1 q.1 (hP k q hq).lt (fun h => by
    rcases h with ⟨k2, e2, h⟩ | h
    · simp at h
    · exact absurd (hP k q hq).lt (Nat.not_lt.mpr h)))) hD hS1
end KSS
set_option maxHeartbeats 4000000 in
set_option maxRecDepth 100000 in
theorem c_J0_coder_7d493 (l : Launch) (D : va_G) (cI cZ cN : ClassId) (aK aV : Nat → Nat) (i : Nat) (hi : i < 5) : CtI l D cI cZ cN aK aV yJ0_coder_7d493 (k_W yJ0_coder_7d493 cJ0_coder_7d493 1 (some .byte)) { frames := 0, cells := 0, slots := 0, locals := 0 } [.ref (aK i)] [] 0 [] := by
  refine k_startI (by decide) (Nat.le_of_ble_eq_true rfl) ?_
  intro p e s m below meth c A ls hx hb hr hml hown hts hlocks hT hZ hA hP hD hS hl
  have hu : ∀ w ∈ k_U, w.before ([.ref (aK i)] : List Value).toArray s = true := fun w h => hts w (List.mem_cons_of_mem _ h)
  have hown : s.vm.findClass RJ0 = some m.cls := hown
  have hl : lv_has ls 1 [(0, .ref (aK i))] := hl
  refine va_gets hx hb hZ.2.1 hS hown (hu _ u_628) (fun _ h9 => h9) dJ0_coder_7d493_0 ?_
  refine lv_if_eq (tgt := 13) hx hb dJ0_coder_7d493_3 (by decide) (fun c1 => absurd c1 (by decide)) (fun _ => ?_)
  refine lv_aload_n hx hb dJ0_coder_7d493_6 rfl (lv_at hl 0 rfl) ?_
  refine vk_getf hx hb (hZ.1.1 i hi).2.1 hS hown (hu _ u_1029) (fun _ h9 => h9) dJ0_coder_7d493_7 ?_
  refine lv_goto (tgt := 14) hx hb dJ0_coder_7d493_10 (by decide) ?_
  exact k_retN hx hb hr hlocks rfl hP hD hS dJ0_coder_7d493_14
set_option maxHeartbeats 4000000 in
set_option maxRecDepth 100000 in
theorem c_J0_isLatin1_aae02 (l : Launch) (D : va_G) (cI cZ cN : ClassId) (aK aV : Nat → Nat) (i : Nat) (hi : i < 5) : CtI l D cI cZ cN aK aV yJ0_isLatin1_aae02 (k_W yJ0_isLatin1_aae02 cJ0_isLatin1_aae02 1 (some .boolean)) { frames := 0, cells := 0, slots := 0, locals := 0 } [.ref (aK i)] [] 1 [] := by
  refine k_startI (by decide) (Nat.le_of_ble_eq_true rfl) ?_
  intro p e s m below meth c A ls hx hb hr hml hown hts hlocks hT hZ hA hP hD hS hl
  have hu : ∀ w ∈ k_U, w.before ([.ref (aK i)] : List Value).toArray s = true := fun w h => hts w (List.mem_cons_of_mem _ h)
  have hown : s.vm.findClass RJ0 = some m.cls := hown
  have hl : lv_has ls 1 [(0, .ref (aK i))] := hl
  refine va_gets hx hb hZ.2.1 hS hown (hu _ u_628) (fun _ h9 => h9) dJ0_isLatin1_aae02_0 ?_
  refine lv_if_eq (tgt := 17) hx hb dJ0_isLatin1_aae02_3 (by decide) (fun c1 => absurd c1 (by decide)) (fun _ => ?_)
  refine lv_aload_n hx hb dJ0_isLatin1_aae02_6 rfl (lv_at hl 0 rfl) ?_
  refine vk_getf hx hb (hZ.1.1 i hi).2.1 hS hown (hu _ u_1029) (fun _ h9 => h9) dJ0_isLatin1_aae02_7 ?_
  refine lv_if_ne (tgt := 17) hx hb dJ0_isLatin1_aae02_10 (by decide) (fun c1 => absurd rfl c1) (fun _ => ?_)
  refine lv_iconst (v := 1) hx hb dJ0_isLatin1_aae02_13 (by decide) ?_
  refine lv_goto (tgt := 18) hx hb dJ0_isLatin1_aae02_14 (by decide) ?_
  exact k_retN hx hb hr hlocks rfl hP hD hS dJ0_isLatin1_aae02_18
theorem k_slen_ok : ∀ i, i < 5 → Int32.ofNat (k_slen.getD i 0) >>> ((0 : Int32) &&& 31) = nI (k_slen.getD i 0) := by decide +kernel
set_option maxHeartbeats 4000000 in
set_option maxRecDepth 100000 in
theorem c_J0_length_8abf5 (l : Launch) (D : va_G) (cI cZ cN : ClassId) (aK aV : Nat → Nat) (i : Nat) (hi : i < 5) : CtI l D cI cZ cN aK aV yJ0_length_8abf5 (k_W yJ0_length_8abf5 cJ0_length_8abf5 1 (some .int)) { frames := 1, cells := 0, slots := 0, locals := 20 } [.ref (aK i)] [] (nI (k_slen.getD i 0)) [] := by
  refine k_startI (by decide) (Nat.le_of_ble_eq_true rfl) ?_
  intro p e s m below meth c A ls hx hb hr hml hown hts hlocks hT hZ hA hP hD hS hl
  have hu : ∀ w ∈ k_U, w.before ([.ref (aK i)] : List Value).toArray s = true := fun w h => hts w (List.mem_cons_of_mem _ h)
  have hown : s.vm.findClass RJ0 = some m.cls := hown
  have hl : lv_has ls 1 [(0, .ref (aK i))] := hl
  refine lv_aload_n hx hb dJ0_length_8abf5_0 rfl (lv_at hl 0 rfl) ?_
  refine vk_getf hx hb (hZ.1.1 i hi).2.2.1 hS hown (hu _ u_1028) (fun _ h9 => h9) dJ0_length_8abf5_1 ?_
  refine va_tlen hx hb (hZ.1.1 i hi).2.2.2 hS rfl dJ0_length_8abf5_4 ?_
  refine lv_aload_n hx hb dJ0_length_8abf5_5 rfl (lv_at hl 0 rfl) ?_
  refine k_callL hi (As := []) (rest := [.int (Int32.ofNat (k_slen.getD i 0))]) ⟨hx, hb, hml, hown, hts⟩ hT hZ hA hP hD hS (c_J0_coder_7d493 l D cI cZ cN aK aV i hi) ⟨callB_of 0 hts (k_good u_627) rfl rfl rfl (hu _ u_55) (hu _ u_624) (by decide +kernel) ⟨Nat.le_of_ble_eq_true rfl, Nat.le_of_ble_eq_true rfl⟩, hu _ u_625, hu _ u_626⟩ rfl hl.1 rfl (Nat.le_of_ble_eq_true rfl) dJ0_length_8abf5_6 (fun H locs hP hD hS => ?_)
  refine lv_ishr hx hb dJ0_length_8abf5_9 ?_
  rw [k_slen_ok i hi]
  exact k_retI hx hb hr hlocks hP hD hS dJ0_length_8abf5_10
set_option maxHeartbeats 4000000 in
set_option maxRecDepth 100000 in
theorem c_J3_checkIndex_8e157 (l : Launch) (D : va_G) (cI cZ cN : ClassId) (aK aV : Nat → Nat) (k n : Int32) (v : Value) (hv : v = .null ∨ ∃ t, v = .ref t) (h0 : ¬ k < 0) (h1 : k < n) : CtI l D cI cZ cN aK aV yJ3_checkIndex_8e157 (k_W yJ3_checkIndex_8e157 cJ3_checkIndex_8e157 3 (some .int)) { frames := 0, cells := 0, slots := 0, locals := 0 } [.int k, .int n, v] [] k [] := by
  refine k_startI (by decide) (by rcases hv with rfl | ⟨t, rfl⟩ <;> exact Nat.le_of_ble_eq_true rfl) ?_
  intro p e s m below meth c A ls hx hb hr hml hown hts hlocks hT hZ hA hP hD hS hl
  have hu : ∀ w ∈ k_U, w.before ([.int k, .int n, v] : List Value).toArray s = true := fun w h => hts w (List.mem_cons_of_mem _ h)
  have hown : s.vm.findClass RJ3 = some m.cls := hown
  have hl : lv_has ls 3 [(0, .int k), (1, .int n)] := by
    rcases hv with rfl | ⟨t, rfl⟩
    · exact lv_sub hl [0, 1] rfl
    · exact lv_sub hl [0, 1] rfl
  refine lv_iload_n hx hb dJ3_checkIndex_8e157_0 rfl (lv_at hl 0 rfl) ?_
  refine lv_if_lt (tgt := 9) hx hb dJ3_checkIndex_8e157_1 (by decide) (fun c1 => absurd c1 h0) (fun _ => ?_)
  refine lv_iload_n hx hb dJ3_checkIndex_8e157_4 rfl (lv_at hl 0 rfl) ?_
  refine lv_iload_n hx hb dJ3_checkIndex_8e157_5 rfl (lv_at hl 1 rfl) ?_
  refine lv_icmp_lt (tgt := 16) hx hb dJ3_checkIndex_8e157_6 (by decide) (fun _ => ?_) (fun c1 => absurd h1 c1)
  refine lv_iload_n hx hb dJ3_checkIndex_8e157_16 rfl (lv_at hl 0 rfl) ?_
  exact k_retI hx hb hr hlocks hP hD hS dJ3_checkIndex_8e157_17
set_option maxHeartbeats 4000000 in
set_option maxRecDepth 100000 in
theorem c_J0_checkIndex_df160 (l : Launch) (D : va_G) (cI cZ cN : ClassId) (aK aV : Nat → Nat) (k n : Int32) (h0 : ¬ k < 0) (h1 : k < n) : CtV l D cI cZ cN aK aV yJ0_checkIndex_df160 (k_W yJ0_checkIndex_df160 cJ0_checkIndex_df160 2 none) { frames := 1, cells := 0, slots := 0, locals := 22 } [.int k, .int n] [] [] := by
  refine k_startV (by decide) (Nat.le_of_ble_eq_true rfl) ?_
  intro p e s m below meth c A ls hx hb hr hml hown hts hlocks hT hZ hA hP hD hS hl
  have hu : ∀ w ∈ k_U, w.before ([.int k, .int n] : List Value).toArray s = true := fun w h => hts w (List.mem_cons_of_mem _ h)
  have hown : s.vm.findClass RJ0 = some m.cls := hown
  have hl : lv_has ls 2 [(0, .int k), (1, .int n)] := hl
  refine lv_iload_n hx hb dJ0_checkIndex_df160_0 rfl (lv_at hl 0 rfl) ?_
  refine lv_iload_n hx hb dJ0_checkIndex_df160_1 rfl (lv_at hl 1 rfl) ?_
  have key : ∀ v : Value, (v = .null ∨ ∃ t, v = .ref t) → va_Z "jdk/internal/util/Preconditions" "SIOOBE_FORMATTER" "Ljava/util/function/BiFunction;" v A s s.heap → W p l e { frames := 1, cells := 0, slots := 0, locals := 22 } s m ([.int k, .int n] : List Value).toArray below meth c s.heap [] 0 0 (MQ below (k_QV D [] A) ([.int k, .int n] : List Value).toArray s 0 0 A) (F0 m (0 + 1 + 1) ls [.int n, .int k]) := by
    intro v hv hz
    refine va_gets hx hb hz hS hown (hu _ u_644) (fun _ h9 => h9) dJ0_checkIndex_df160_2 ?_
    refine k_call0 (As := [.int k, .int n, v]) (rest := []) ⟨hx, hb, hml, hown, hts⟩ hT hZ hA hP hD hS (c_J3_checkIndex_8e157 l D cI cZ cN aK aV k n v hv h0 h1) ⟨callB_of 3 hts (k_good u_648) rfl rfl rfl (hu _ u_57) (hu _ u_646) (by decide +kernel) ⟨Nat.le_of_ble_eq_true rfl, Nat.le_of_ble_eq_true rfl⟩, hu _ u_647⟩ rfl hl.1 rfl (Nat.le_of_ble_eq_true rfl) dJ0_checkIndex_df160_5 (fun H locs hP hD hS => ?_)
    refine lv_pop hx hb dJ0_checkIndex_df160_8 rfl ?_
    exact k_retV hx hb hr hlocks hP hD hS dJ0_checkIndex_df160_9
  rcases hZ.2.2.1 with hz | ⟨t, hz⟩
  · exact key _ (Or.inl rfl) hz
  · exact key _ (Or.inr ⟨t, rfl⟩) hz
theorem k_chr_ok : ∀ i, i < 5 → ∀ j, j < k_slen.getD i 0 → ((((k_sbyt.getD i []).getD j 0 &&& 255).toUInt32 % 65536).toInt32 = (k_sbyt.getD i []).getD j 0 ∧ narrow .char (.int ((k_sbyt.getD i []).getD j 0)) = .int ((k_sbyt.getD i []).getD j 0)) := by decide +kernel
theorem k_slen_lt : ∀ i, i < 5 → k_slen.getD i 0 < 6 := by decide +kernel
set_option maxHeartbeats 4000000 in
set_option maxRecDepth 100000 in
theorem c_J1_charAt_3b067 (l : Launch) (D : va_G) (cI cZ cN : ClassId) (aK aV : Nat → Nat) (i : Nat) (hi : i < 5) (k : Int32) (hk : vp_in k (k_slen.getD i 0)) : CtI l D cI cZ cN aK aV yJ1_charAt_3b067 (k_W yJ1_charAt_3b067 cJ1_charAt_3b067 2 (some .char)) { frames := 2, cells := 0, slots := 0, locals := 43 } [.ref (aV i), .int k] [] ((k_sbyt.getD i []).getD k.toNatClampNeg 0) [] := by
  refine k_startI (by decide) (Nat.le_of_ble_eq_true rfl) ?_
  intro p e s m below meth c A ls hx hb hr hml hown hts hlocks hT hZ hA hP hD hS hl
  have hu : ∀ w ∈ k_U, w.before ([.ref (aV i), .int k] : List Value).toArray s = true := fun w h => hts w (List.mem_cons_of_mem _ h)
  have hown : s.vm.findClass RJ1 = some m.cls := hown
  have hl : lv_has ls 2 [(0, .ref (aV i)), (1, .int k)] := hl
  have h6 := k_slen_lt i hi
  obtain ⟨j, hj, rfl⟩ := vp_in_of hk (by omega)
  have hcl : (nI j).toNatClampNeg = j := nI_clamp (by omega)
  have ho := k_chr_ok i hi j hj
  refine lv_iload_n hx hb dJ1_charAt_3b067_0 rfl (lv_at hl 1 rfl) ?_
  refine lv_aload_n hx hb dJ1_charAt_3b067_1 rfl (lv_at hl 0 rfl) ?_
  refine va_tlen hx hb (hZ.1.1 i hi).2.2.2 hS (v := nI (k_slen.getD i 0)) rfl dJ1_charAt_3b067_2 ?_
  refine k_call0V (As := [.int (nI j), .int (nI (k_slen.getD i 0))]) (rest := []) ⟨hx, hb, hml, hown, hts⟩ hT hZ hA hP hD hS (c_J0_checkIndex_df160 l D cI cZ cN aK aV (nI j) (nI (k_slen.getD i 0)) (nI_pos (by omega)) (nI_lt hj (by omega))) ⟨callB_of 2 hts (k_good u_643) rfl rfl rfl (hu _ u_55) (hu _ u_641) (by decide +kernel) ⟨Nat.le_of_ble_eq_true rfl, Nat.le_of_ble_eq_true rfl⟩, hu _ u_642⟩ rfl hl.1 rfl (Nat.le_of_ble_eq_true rfl) dJ1_charAt_3b067_3 (fun H locs hP hD hS => ?_)
  refine lv_aload_n hx hb dJ1_charAt_3b067_6 rfl (lv_at hl 0 rfl) ?_
  refine lv_iload_n hx hb dJ1_charAt_3b067_7 rfl (lv_at hl 1 rfl) ?_
  refine va_tb hx hb (hZ.1.1 i hi).2.2.2 hS hk rfl dJ1_charAt_3b067_8 ?_
  refine lv_sipush (v := 255) hx hb dJ1_charAt_3b067_9 (by decide) ?_
  refine lv_iand hx hb dJ1_charAt_3b067_12 ?_
  refine lv_i2c (v := (k_sbyt.getD i []).getD (nI j).toNatClampNeg 0) hx hb dJ1_charAt_3b067_13 (by rw [hcl]; exact ho.1) ?_
  exact k_retN hx hb hr hlocks (by rw [hcl]; exact ho.2) hP hD hS dJ1_charAt_3b067_14
set_option maxHeartbeats 4000000 in
set_option maxRecDepth 100000 in
theorem c_J0_charAt_5068e (l : Launch) (D : va_G) (cI cZ cN : ClassId) (aK aV : Nat → Nat) (i : Nat) (hi : i < 5) (k : Int32) (hk : vp_in k (k_slen.getD i 0)) : CtI l D cI cZ cN aK aV yJ0_charAt_5068e (k_W yJ0_charAt_5068e cJ0_charAt_5068e 2 (some .char)) { frames := 3, cells := 0, slots := 0, locals := 64 } [.ref (aK i), .int k] [] ((k_sbyt.getD i []).getD k.toNatClampNeg 0) [] := by
  refine k_startI (by decide) (Nat.le_of_ble_eq_true rfl) ?_
  intro p e s m below meth c A ls hx hb hr hml hown hts hlocks hT hZ hA hP hD hS hl
  have hu : ∀ w ∈ k_U, w.before ([.ref (aK i), .int k] : List Value).toArray s = true := fun w h => hts w (List.mem_cons_of_mem _ h)
  have hown : s.vm.findClass RJ0 = some m.cls := hown
  have hl : lv_has ls 2 [(0, .ref (aK i)), (1, .int k)] := hl
  have hn : narrow .char (.int ((k_sbyt.getD i []).getD k.toNatClampNeg 0)) = .int ((k_sbyt.getD i []).getD k.toNatClampNeg 0) := by
    have h6 := k_slen_lt i hi
    obtain ⟨j, hj, rfl⟩ := vp_in_of hk (by omega)
    rw [nI_clamp (by omega)]
    exact (k_chr_ok i hi j hj).2
  refine lv_aload_n hx hb dJ0_charAt_5068e_0 rfl (lv_at hl 0 rfl) ?_
  refine k_callL hi (As := []) (rest := []) ⟨hx, hb, hml, hown, hts⟩ hT hZ hA hP hD hS (c_J0_isLatin1_aae02 l D cI cZ cN aK aV i hi) ⟨callB_of 0 hts (k_good u_637) rfl rfl rfl (hu _ u_55) (hu _ u_634) (by decide +kernel) ⟨Nat.le_of_ble_eq_true rfl, Nat.le_of_ble_eq_true rfl⟩, hu _ u_635, hu _ u_636⟩ rfl hl.1 rfl (Nat.le_of_ble_eq_true rfl) dJ0_charAt_5068e_1 (fun H locs hP hD hS => ?_)
  refine lv_if_eq (tgt := 16) hx hb dJ0_charAt_5068e_4 (by decide) (fun c1 => absurd c1 (by decide)) (fun _ => ?_)
  refine lv_aload_n hx hb dJ0_charAt_5068e_7 rfl (lv_at hl 0 rfl) ?_
  refine vk_getf hx hb (hZ.1.1 i hi).2.2.1 hS hown (hu _ u_1028) (fun _ h9 => h9) dJ0_charAt_5068e_8 ?_
  refine lv_iload_n hx hb dJ0_charAt_5068e_11 rfl (lv_at hl 1 rfl) ?_
  refine k_call0 (As := [.ref (aV i), .int k]) (rest := []) ⟨hx, hb, hml, hown, hts⟩ hT hZ hA hP hD hS (c_J1_charAt_3b067 l D cI cZ cN aK aV i hi k hk) ⟨callB_of 2 hts (k_good u_640) rfl rfl rfl (hu _ u_56) (hu _ u_638) (by decide +kernel) ⟨Nat.le_of_ble_eq_true rfl, Nat.le_of_ble_eq_true rfl⟩, hu _ u_639⟩ rfl hl.1 rfl (Nat.le_of_ble_eq_true rfl) dJ0_charAt_5068e_12 (fun H locs hP hD hS => ?_)
  exact k_retN hx hb hr hlocks hn hP hD hS dJ0_charAt_5068e_15
