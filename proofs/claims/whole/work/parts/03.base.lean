/-! Own rows over the kit: one word list for all methods, contracts that make no cells, a call as one row. -/
abbrev k_W (y : MethodName) (cc : ByteArray) (n : Nat) (ret : Option FieldType) : List Cond := Cond.code y cc n ret :: k_U
theorem k_Ug : ∀ w ∈ k_U, (w.onTables && w.keeps) = true ∨ ∃ ty, w = .arrayClass ty := fun _ h => good_of_word (List.mem_filter.mp h).2
theorem k_good {y y' : MethodName} {cc cc' : ByteArray} {n n' : Nat} {ret ret' : Option FieldType} (h : Cond.code y cc n ret ∈ k_U) : GoodIn (k_W y' cc' n' ret') (k_W y cc n ret) := by
  intro w hw
  rcases List.mem_cons.mp hw with rfl | h1
  · exact ⟨List.mem_cons_of_mem _ h, k_Ug _ h⟩
  · exact ⟨List.mem_cons_of_mem _ h1, k_Ug _ h1⟩
theorem k_iX0 : ∀ w ∈ wsX00, w ∈ k_U := fun w h => List.mem_filter.mpr ⟨(show ∀ w ∈ wsX00, w ∈ lw_tbl by decide +kernel) w h, (show ∀ w ∈ wsX00, goodWord w = true by decide +kernel) w h⟩
theorem k_iX1 : ∀ w ∈ wsX10, w ∈ k_U := fun w h => List.mem_filter.mpr ⟨(show ∀ w ∈ wsX10, w ∈ lw_tbl by decide +kernel) w h, (show ∀ w ∈ wsX10, goodWord w = true by decide +kernel) w h⟩
theorem k_iX2 : ∀ w ∈ wsX20, w ∈ k_U := fun w h => List.mem_filter.mpr ⟨(show ∀ w ∈ wsX20, w ∈ lw_tbl by decide +kernel) w h, (show ∀ w ∈ wsX20, goodWord w = true by decide +kernel) w h⟩
theorem k_iX3 : ∀ w ∈ wsX30, w ∈ k_U := fun w h => List.mem_filter.mpr ⟨(show ∀ w ∈ wsX30, w ∈ lw_tbl by decide +kernel) w h, (show ∀ w ∈ wsX30, goodWord w = true by decide +kernel) w h⟩
theorem k_iX4 : ∀ w ∈ wsX40, w ∈ k_U := fun w h => List.mem_filter.mpr ⟨(show ∀ w ∈ wsX40, w ∈ lw_tbl by decide +kernel) w h, (show ∀ w ∈ wsX40, goodWord w = true by decide +kernel) w h⟩
theorem k_iX5 : ∀ w ∈ wsX50, w ∈ k_U := fun w h => List.mem_filter.mpr ⟨(show ∀ w ∈ wsX50, w ∈ lw_tbl by decide +kernel) w h, (show ∀ w ∈ wsX50, goodWord w = true by decide +kernel) w h⟩
theorem k_iX6 : ∀ w ∈ wsX60, w ∈ k_U := fun w h => List.mem_filter.mpr ⟨(show ∀ w ∈ wsX60, w ∈ lw_tbl by decide +kernel) w h, (show ∀ w ∈ wsX60, goodWord w = true by decide +kernel) w h⟩
/-- the nest mates' links -/
def k_N (U : State) : Prop :=
  va_AO RX1 U ∧ va_Nw (.methodLinkNest RX5 9 yX1_init RX5) U ∧ va_Nw (.methodLinkNest RX5 70 yX3_init RX5) U ∧ va_Nw (.methodLinkNest RX1 53 yX5_withBit RX5) U ∧ va_Nw (.methodLinkNest RX1 60 yX5_bit RX5) U ∧ va_Nw (.methodLinkNest RX4 41 yX5_bit RX5) U ∧ va_Nw (.methodLinkNest RX0 79 yX5_bit RX5) U ∧ va_Nw (.methodLinkNest RX0 95 yX5_withBit RX5) U ∧ va_Nw (.methodLinkNest RX3 106 yX5_withBit RX5) U ∧ va_Nw (.methodLinkNest RX3 112 yX5_bit RX5) U
theorem k_N.warm {s U : State} (hW : s.WarmedH U.vm) (h : k_N s) : k_N U := by
  obtain ⟨h0, h1, h2, h3, h4, h5, h6, h7, h8, h9⟩ := h
  exact ⟨h0.moved hW.alike, h1.warmM hW, h2.warmM hW, h3.warmM hW, h4.warmM hW, h5.warmM hW, h6.warmM hW, h7.warmM hW, h8.warmM hW, h9.warmM hW⟩
theorem k_N.same {s U : State} (hW : s.vm = U.vm) (h : k_N s) : k_N U := by
  obtain ⟨h0, h1, h2, h3, h4, h5, h6, h7, h8, h9⟩ := h
  exact ⟨h0.moved (by rw [hW]; exact Vm.Alike.refl _), h1.same rfl hW, h2.same rfl hW, h3.same rfl hW, h4.same rfl hW, h5.same rfl hW, h6.same rfl hW, h7.same rfl hW, h8.same rfl hW, h9.same rfl hW⟩
abbrev k_tys (cI cZ cN : ClassId) : List (ClassId × FieldType) := [(cI, .int), (cZ, .boolean), (cN, .object RX1)]
def k_T (D : va_G) (cI cZ cN : ClassId) (U : State) : Prop := va_K D vwCl (k_tys cI cZ cN) U ∧ k_N U
theorem k_T.warm {D : va_G} {cI cZ cN : ClassId} {s U : State} (hW : s.WarmedH U.vm) (h : k_T D cI cZ cN s) : k_T D cI cZ cN U := ⟨va_K.moved hW.alike h.1, h.2.warm hW⟩
theorem k_T.same {D : va_G} {cI cZ cN : ClassId} {s U : State} (hW : s.vm = U.vm) (h : k_T D cI cZ cN s) : k_T D cI cZ cN U := ⟨va_K.moved (by rw [hW]; exact Vm.Alike.refl _) h.1, h.2.same hW⟩
abbrev k_slen : List Nat := [4, 3, 3, 5, 4]
abbrev k_sbyt : List (List Int32) := [[108, 105, 110, 107], [99, 117, 116], [102, 105, 120], [108, 101, 97, 114, 110], [115, 105, 122, 101]]
/-- the five literals (aK: their cells, aV: their bytes) and the two statics of the JDK, in cells that nobody of us writes -/
def k_S (aK aV : Nat → Nat) (A : Nat → Prop) (U : State) (H : Heap) : Prop :=
  vk_S 5 k_slen k_sbyt aK aV A U H ∧ va_Z "java/lang/String" "COMPACT_STRINGS" "Z" (.int 1) A U H ∧ va_Zq "jdk/internal/util/Preconditions" "SIOOBE_FORMATTER" "Ljava/util/function/BiFunction;" A U H ∧ vk_R RX3 55 "link" (aK 0) U ∧ vk_R RX3 61 "cut" (aK 1) U ∧ vk_R RX3 63 "fix" (aK 2) U ∧ vk_R RX3 65 "learn" (aK 3) U ∧ vk_R RX3 67 "size" (aK 4) U
theorem k_S.same {aK aV : Nat → Nat} {A : Nat → Prop} {u U : State} {H : Heap} (hv : U.vm = u.vm) (h : k_S aK aV A u H) : k_S aK aV A U H := by
  obtain ⟨h1, h2, h3, h4, h5, h6, h7, h8⟩ := h
  have ha : u.vm.Alike U.vm := by rw [hv]; exact Vm.Alike.refl _
  exact ⟨h1.moved ha, h2.moved ha, h3.moved ha, h4.same hv, h5.same hv, h6.same hv, h7.same hv, h8.same hv⟩
theorem k_S.call {aK aV : Nat → Nat} {A B : Nat → Prop} {s U : State} {H : Heap} {locs : List Loc} (h : k_S aK aV A s s.heap) (hS : va_S A s.heap H locs) (hF : ∀ q, B q → A q) (hU : U.heap = H) (hW : s.WarmedH U.vm) : k_S aK aV B U U.heap := by
  obtain ⟨h1, h2, h3, h4, h5, h6, h7, h8⟩ := h
  rw [hU]
  exact ⟨((h1.kept hS.2.1).narrow hF).moved hW.alike, ((h2.kept hS.2.1).narrow hF).moved hW.alike, ((h3.kept hS.2.1).narrow hF).moved hW.alike, h4.warm hW, h5.warm hW, h6.warm hW, h7.warm hW, h8.warm hW⟩
def k_pre (D : va_G) (cI cZ cN : ClassId) (aK aV : Nat → Nat) (av : List Value) (w0 : va_W) (sz : Nat) : Array Value → State → Prop :=
  va_Pc av (fun U => U.heap.size = sz ∧ va_P D vwCl w0 U.heap ∧ k_T D cI cZ cN U ∧ va_D (fun _ => True) w0 ∧ k_S aK aV (va_A w0 sz) U U.heap)
theorem k_blind {D : va_G} {cI cZ cN : ClassId} {aK aV : Nat → Nat} {av : List Value} {w0 : va_W} {sz : Nat} : FrameBlind (k_pre D cI cZ cN aK aV av w0 sz) := by
  intro a U g mk q
  obtain ⟨q0, q1, qP, qT, qD, qZ⟩ := q
  exact ⟨q0, q1, qP, k_T.same (s := U) rfl qT, qD, k_S.same (u := U) rfl qZ⟩
abbrev k_QI (D : va_G) (r : Int32) (w1 : va_W) (A : Nat → Prop) : Array Value → State → Outcome → State → Prop :=
  va_Qi (fun (x : Int32) (_ : Unit) => x = r) (fun _ t => va_P D vwCl w1 t.heap ∧ va_D A w1) A
abbrev k_QV (D : va_G) (w1 : va_W) (A : Nat → Prop) : Array Value → State → Outcome → State → Prop :=
  va_Qv (fun (_ : Unit) => True) (fun _ t => va_P D vwCl w1 t.heap ∧ va_D A w1) A
/-- a contract: with the cells w0 and the arguments av the method answers r, and the cells are w1 -/
def CtI (l : Launch) (D : va_G) (cI cZ cN : ClassId) (aK aV : Nat → Nat) (y : MethodName) (Ws : List Cond) (rm : Room) (av : List Value) (w0 : va_W) (r : Int32) (w1 : va_W) : Prop :=
  ∀ sz, Met l y Ws rm (k_pre D cI cZ cN aK aV av w0 sz) (k_QI D r w1 (va_A w0 sz)) 0 0 (va_A w0 sz)
def CtV (l : Launch) (D : va_G) (cI cZ cN : ClassId) (aK aV : Nat → Nat) (y : MethodName) (Ws : List Cond) (rm : Room) (av : List Value) (w0 : va_W) (w1 : va_W) : Prop :=
  ∀ sz, Met l y Ws rm (k_pre D cI cZ cN aK aV av w0 sz) (k_QV D w1 (va_A w0 sz)) 0 0 (va_A w0 sz)
theorem k_startI {l : Launch} {D : va_G} {cI cZ cN : ClassId} {aK aV : Nat → Nat} {y : MethodName} {cc : ByteArray} {maxL : Nat} {ret : FieldType} {rm : Room} {av : List Value} {w0 : va_W} {r : Int32} {w1 : va_W} (hy : plainName y.cls = true) (hn : (lg_sl av).length ≤ maxL)
    (k : ∀ (p : Program) (e : Env) (s : State) (m : MethodId) (below : List Frame) (meth : Method) (c : Code) (A : Nat → Prop) (ls : Array Slot), p.tables.exec = Jvm.exec → c.code = cc → meth.sig.returnType = some ret → c.maxLocals = maxL → s.vm.findClass y.cls = some m.cls → (∀ w ∈ k_W y cc maxL (some ret), w.before av.toArray s = true) → meth.locks = false → k_T D cI cZ cN s → k_S aK aV A s s.heap → (∀ q, s.heap.size ≤ q → A q) → va_P D vwCl w0 s.heap → va_D A w0 → va_S A s.heap s.heap [] → lv_has ls maxL (lv_args 0 av) →
      W p l e rm s m av.toArray below meth c s.heap [] 0 0 (MQ below (k_QI D r w1 A) av.toArray s 0 0 A) (F0 m 0 ls [])) : CtI l D cI cZ cN aK aV y (k_W y cc maxL (some ret)) rm av w0 r w1 := by
  intro sz
  refine Met.ofW (cc := cc) (maxL := maxL) (ret := some ret) hy rfl ?_
  intro p e s m args below meth c s₁ B hml hv
  obtain ⟨rfl, hsz, hP, hT, hD0, hZ⟩ := hv
  have hts := atoms_spec (ws := k_W y cc maxL (some ret)) B.pre
  have hown : s.vm.findClass y.cls = some m.cls := findClass_of_methodNamed B.named
  subst hsz
  have hD := hD0.self (sz := s.heap.size)
  have hl := lv_entry av (n := maxL) hn
  rw [lg_entry_eq]
  exact k p e s m below meth c (va_A w0 s.heap.size) _ B.exec B.bytes B.returns hml hown hts B.notSynchronized hT hZ (fun q h => Or.inr h) hP hD va_S.rf hl
theorem k_startV {l : Launch} {D : va_G} {cI cZ cN : ClassId} {aK aV : Nat → Nat} {y : MethodName} {cc : ByteArray} {maxL : Nat} {rm : Room} {av : List Value} {w0 : va_W} {w1 : va_W} (hy : plainName y.cls = true) (hn : (lg_sl av).length ≤ maxL)
    (k : ∀ (p : Program) (e : Env) (s : State) (m : MethodId) (below : List Frame) (meth : Method) (c : Code) (A : Nat → Prop) (ls : Array Slot), p.tables.exec = Jvm.exec → c.code = cc → meth.sig.returnType = none → c.maxLocals = maxL → s.vm.findClass y.cls = some m.cls → (∀ w ∈ k_W y cc maxL none, w.before av.toArray s = true) → meth.locks = false → k_T D cI cZ cN s → k_S aK aV A s s.heap → (∀ q, s.heap.size ≤ q → A q) → va_P D vwCl w0 s.heap → va_D A w0 → va_S A s.heap s.heap [] → lv_has ls maxL (lv_args 0 av) →
      W p l e rm s m av.toArray below meth c s.heap [] 0 0 (MQ below (k_QV D w1 A) av.toArray s 0 0 A) (F0 m 0 ls [])) : CtV l D cI cZ cN aK aV y (k_W y cc maxL none) rm av w0 w1 := by
  intro sz
  refine Met.ofW (cc := cc) (maxL := maxL) (ret := none) hy rfl ?_
  intro p e s m args below meth c s₁ B hml hv
  obtain ⟨rfl, hsz, hP, hT, hD0, hZ⟩ := hv
  have hts := atoms_spec (ws := k_W y cc maxL none) B.pre
  have hown : s.vm.findClass y.cls = some m.cls := findClass_of_methodNamed B.named
  subst hsz
  have hD := hD0.self (sz := s.heap.size)
  have hl := lv_entry av (n := maxL) hn
  rw [lg_entry_eq]
  exact k p e s m below meth c (va_A w0 s.heap.size) _ B.exec B.bytes B.returns hml hown hts B.notSynchronized hT hZ (fun q h => Or.inr h) hP hD va_S.rf hl
theorem k_Psub {D : va_G} {cl : List vw_C} {ws ws' : va_W} {H : Heap} (h : va_P D cl ws H) (is : List Nat) (hs : is.map (fun i => ws[i]?) = ws'.map some) : va_P D cl ws' H := by
  intro k q hk
  have h1 : (is.map (fun i => ws[i]?))[k]? = some (some q) := by rw [hs, List.getElem?_map, hk]; rfl
  rw [List.getElem?_map] at h1
  cases hi : is[k]? with
  | none => rw [hi] at h1; cases h1
  | some i => rw [hi] at h1; exact h i q (Option.some.inj h1)
section KB
variable {p : Program} {l : Launch} {e : Env} {R : Room} {s : State} {m : MethodId} {args : Array Value} {below : List Frame} {meth : Method} {c : Code} {H : Heap} {locs : List Loc} {Q : State → Prop} {pc : Nat} {ls : Array Slot} {cc : ByteArray} {D : va_G} {cI cZ cN : ClassId} {aK aV : Nat → Nat} {A : Nat → Prop}
theorem k_retI {r : Int32} {w1 : va_W} (hx : p.tables.exec = Jvm.exec) (hb : c.code = cc) (hr : meth.sig.returnType = some .int) (hlocks : meth.locks = false) (hP : va_P D vwCl w1 H) (hD : va_D A w1) (hS : va_S A s.heap H locs) (hdg : decode cc pc = .ok (.ireturn, 1)) :
    W p l e R s m args below meth c H locs 0 0 (MQ below (k_QI D r w1 A) args s 0 0 A) (F0 m pc ls [.int r]) :=
  W.iret hx hb hr (fun t ht hW => ⟨⟨r, (), rfl, rfl, by rw [ht]; exact hP, hD⟩, hS.F ht⟩) hS.2.2 hdg hlocks
theorem k_nb {r : Int32} (h : r = 0 ∨ r = 1) : narrow .boolean (.int r) = .int r := by
  rcases h with rfl | rfl <;> rfl
theorem k_retZ {r : Int32} {w1 : va_W} (hx : p.tables.exec = Jvm.exec) (hb : c.code = cc) (hr : meth.sig.returnType = some .boolean) (hlocks : meth.locks = false) (hn : r = 0 ∨ r = 1) (hP : va_P D vwCl w1 H) (hD : va_D A w1) (hS : va_S A s.heap H locs) (hdg : decode cc pc = .ok (.ireturn, 1)) :
    W p l e R s m args below meth c H locs 0 0 (MQ below (k_QI D r w1 A) args s 0 0 A) (F0 m pc ls [.int r]) :=
  W.zret hx hb hr (k_nb hn) (fun t ht hW => ⟨⟨r, (), rfl, rfl, by rw [ht]; exact hP, hD⟩, hS.F ht⟩) hS.2.2 hdg hlocks
theorem k_retV {w1 : va_W} (hx : p.tables.exec = Jvm.exec) (hb : c.code = cc) (hr : meth.sig.returnType = none) (hlocks : meth.locks = false) (hP : va_P D vwCl w1 H) (hD : va_D A w1) (hS : va_S A s.heap H locs) (hdg : decode cc pc = .ok (.return_, 1)) :
    W p l e R s m args below meth c H locs 0 0 (MQ below (k_QV D w1 A) args s 0 0 A) (F0 m pc ls []) :=
  W.vret hx hb hr (fun t ht hW => ⟨⟨(), rfl, trivial, by rw [ht]; exact hP, hD⟩, hS.F ht⟩) hS.2.2 hdg hlocks
/-- cells put back at their places -/
def k_put (ws : va_W) : List Nat → va_W → va_W
  | i :: is, c :: cs => k_put (ws.set i c) is cs
  | _, _ => ws
theorem k_put_at : ∀ (is : List Nat) (cs ws : va_W), is.length = cs.length → va_nd is = true → ∀ (k : Nat) (q : Nat × va_E), (k_put ws is cs)[k]? = some q → (∃ j : Nat, is[j]? = some k ∧ cs[j]? = some q) ∨ (k ∉ is ∧ ws[k]? = some q)
  | [], cs, ws, _, _, k, q, h => Or.inr ⟨List.not_mem_nil, by cases cs <;> exact h⟩
  | i :: is, [], ws, hl, _, k, q, h => by simp at hl
  | i :: is, c :: cs, ws, hl, hn, k, q, h => by
    simp only [va_nd, Bool.and_eq_true, decide_eq_true_eq] at hn
    rcases k_put_at is cs (ws.set i c) (by simpa using hl) hn.2 k q h with ⟨j, h1, h2⟩ | ⟨h1, h2⟩
    · exact Or.inl ⟨j + 1, by simpa using h1, by simpa using h2⟩
    · by_cases hk : i = k
      · subst hk
        rw [List.getElem?_set_self'] at h2
        cases hw : ws[i]? with
        | none => rw [hw] at h2; simp at h2
        | some z =>
          rw [hw] at h2
          exact Or.inl ⟨0, rfl, by simpa using h2⟩
      · rw [List.getElem?_set_ne hk] at h2
        exact Or.inr ⟨fun h => (List.mem_cons.mp h).elim (fun h => hk h.symm) h1, h2⟩
variable {Ts Ws : List Cond} {nL idx n maxL : Nat} {own C : String} {y : MethodName} {bytes : ByteArray} {ret : Option FieldType} {rm : Room} {As st rest : List Value} {b : Nat} {w0 w1 ws : va_W} {r : Int32}
theorem k_same {isC : List Nat} {H1 : Heap} (hP : va_P D vwCl ws H) (hD : va_D A ws) (hC : isC.map (fun i => ws[i]?) = w0.map some) (hk : ∀ q : Nat, q < H.size → ¬ va_A w0 H.size q → H1[q]? = H[q]?) (hP1 : va_P D vwCl w0 H1) : va_P D vwCl ws H1 := by
  intro k q h
  by_cases hq : ∃ j : Nat, w0[j]? = some q
  · obtain ⟨j, hj⟩ := hq
    exact hP1 j q hj
  · refine (hP k q h).kept (hk q.1 (hP k q h).lt fun h2 => ?_)
    rcases h2 with ⟨k2, e2, h2⟩ | h2
    · have h1 : (isC.map (fun i => ws[i]?))[k2]? = some (some (q.1, e2)) := by rw [hC, List.getElem?_map, h2]; rfl
      rw [List.getElem?_map] at h1
      cases hi : isC[k2]? with
      | none => rw [hi] at h1; cases h1
      | some i =>
        rw [hi] at h1
        have h4 : ws[i]? = some (q.1, e2) := Option.some.inj h1
        have := hD.1 k i q (q.1, e2) h h4 rfl
        subst this
        rw [h] at h4
        exact hq ⟨k2, by rw [h2, ← Option.some.inj h4]⟩
    · exact absurd (hP k q h).lt (Nat.not_lt.mpr h2)
theorem k_put_miss : ∀ (js : List Nat) (cs ws : va_W) (k : Nat), k ∉ js → (k_put ws js cs)[k]? = ws[k]?
  | [], cs, ws, k, _ => by cases cs <;> rfl
  | i :: is, [], ws, k, _ => rfl
  | i :: is, c :: cs, ws, k, h => by
    rw [k_put, k_put_miss is cs (ws.set i c) k (fun q => h (List.mem_cons_of_mem _ q)), List.getElem?_set_ne (fun q => h (by rw [q]; exact List.mem_cons_self))]
theorem k_put_hit : ∀ (js : List Nat) (cs ws : va_W), va_nd js = true → (∀ j ∈ js, j < ws.length) → ∀ (j k : Nat) (q : Nat × va_E), js[j]? = some k → cs[j]? = some q → (k_put ws js cs)[k]? = some q
  | [], cs, ws, _, _, j, k, q, h, _ => by simp at h
  | i :: is, [], ws, _, _, j, k, q, _, h => by simp at h
  | i :: is, c :: cs, ws, hn, hl, j, k, q, h1, h2 => by
    simp only [va_nd, Bool.and_eq_true, decide_eq_true_eq] at hn
    cases j with
    | zero =>
      simp only [List.getElem?_cons_zero, Option.some.injEq] at h1 h2
      subst h1; subst h2
      rw [k_put, k_put_miss is cs _ i hn.1, List.getElem?_set_self (hl i List.mem_cons_self)]
    | succ j =>
      simp only [List.getElem?_cons_succ] at h1 h2
      exact k_put_hit is cs (ws.set i c) hn.2 (fun z hz => by rw [List.length_set]; exact hl z (List.mem_cons_of_mem _ hz)) j k q h1 h2
/-- as k_back, where the callee has changed only some of its cells: js their places among its own, ps among ours -/
theorem k_back2 {isC js ps : List Nat} {cs : va_W} {H1 : Heap} (hP : va_P D vwCl ws H) (hD : va_D A ws) (hC : isC.map (fun i => ws[i]?) = w0.map some) (hnj : va_nd js = true) (hnp : va_nd ps = true) (hps : js.map (fun j => isC[j]?) = ps.map some) (hcs : cs.map (fun q => some q.1) = js.map (fun j => (w0[j]?).map (fun q => q.1))) (hk : ∀ q : Nat, q < H.size → ¬ va_A w0 H.size q → H1[q]? = H[q]?) (hP1 : va_P D vwCl (k_put w0 js cs) H1) : va_P D vwCl (k_put ws ps cs) H1 ∧ va_D A (k_put ws ps cs) := by
  have lenC : isC.length = w0.length := by have := congrArg List.length hC; simpa using this
  have lenP : js.length = ps.length := by have := congrArg List.length hps; simpa using this
  have lenS : cs.length = js.length := by have := congrArg List.length hcs; simpa using this
  have key : ∀ (j k : Nat), isC[j]? = some k → ws[k]? = w0[j]? := by
    intro j k hj
    have h1 : (isC.map (fun i => ws[i]?))[j]? = some (ws[k]?) := by rw [List.getElem?_map, hj]; rfl
    rw [hC, List.getElem?_map] at h1
    cases hw : w0[j]? with
    | none => rw [hw] at h1; cases h1
    | some z => rw [hw] at h1; exact (Option.some.inj h1).symm
  have kp : ∀ (j k : Nat), ps[j]? = some k → ∃ i, js[j]? = some i ∧ isC[i]? = some k := by
    intro j k hj
    have hlt : j < js.length := by rw [lenP]; exact (List.getElem?_eq_some_iff.mp hj).1
    refine ⟨js[j], List.getElem?_eq_getElem hlt, ?_⟩
    have h1 : (js.map (fun j => isC[j]?))[j]? = some (some k) := by rw [hps, List.getElem?_map, hj]; rfl
    rw [List.getElem?_map, List.getElem?_eq_getElem hlt] at h1
    exact Option.some.inj h1
  have ka : ∀ (j i : Nat) (q : Nat × va_E), js[j]? = some i → cs[j]? = some q → ∃ z, w0[i]? = some z ∧ z.1 = q.1 := by
    intro j i q h1 h2
    have h3 : (cs.map (fun q => some q.1))[j]? = some (some q.1) := by rw [List.getElem?_map, h2]; rfl
    rw [hcs, List.getElem?_map, h1] at h3
    cases hw : w0[i]? with
    | none => rw [Option.map_some, hw] at h3; cases h3
    | some z => rw [Option.map_some, hw] at h3; exact ⟨z, rfl, Option.some.inj (Option.some.inj h3)⟩
  have hjl : ∀ j ∈ js, j < w0.length := by
    intro i hi
    obtain ⟨j, hj⟩ := List.getElem?_of_mem hi
    have hlt : j < cs.length := by rw [lenS]; exact (List.getElem?_eq_some_iff.mp hj).1
    obtain ⟨z, h1, -⟩ := ka j i cs[j] hj (List.getElem?_eq_getElem hlt)
    exact (List.getElem?_eq_some_iff.mp h1).1
  have at' := fun k q h => k_put_at ps cs ws (by rw [lenS, lenP]) hnp k q h
  have old : ∀ (k : Nat) (q : Nat × va_E), (k_put ws ps cs)[k]? = some q → ∃ z, ws[k]? = some z ∧ z.1 = q.1 := by
    intro k q h
    rcases at' k q h with ⟨j, h1, h2⟩ | ⟨-, h2⟩
    · obtain ⟨i, h3, h4⟩ := kp j k h1
      obtain ⟨z, h5, h6⟩ := ka j i q h3 h2
      exact ⟨z, by rw [key i k h4, h5], h6⟩
    · exact ⟨q, h2, rfl⟩
  refine ⟨fun k q h => ?_, fun i j x y hi hj hxy => ?_, fun k q h => ?_⟩
  · rcases at' k q h with ⟨j, h1, h2⟩ | ⟨h1, h2⟩
    · obtain ⟨i, h3, h4⟩ := kp j k h1
      exact hP1 i q (k_put_hit js cs w0 hnj hjl j i q h3 h2)
    · by_cases hkC : ∃ i : Nat, isC[i]? = some k
      · obtain ⟨i, hi⟩ := hkC
        have hij : i ∉ js := by
          intro hm
          obtain ⟨j, hj⟩ := List.getElem?_of_mem hm
          have hlt : j < ps.length := by rw [← lenP]; exact (List.getElem?_eq_some_iff.mp hj).1
          obtain ⟨i2, h5, h6⟩ := kp j ps[j] (List.getElem?_eq_getElem hlt)
          rw [hj] at h5
          cases h5
          rw [hi] at h6
          cases h6
          exact h1 (List.getElem_mem hlt)
        refine hP1 i q ?_
        rw [k_put_miss js cs w0 i hij, ← key i k hi]
        exact h2
      · refine (hP k q h2).kept (hk q.1 (hP k q h2).lt fun h => ?_)
        rcases h with ⟨k2, e2, h⟩ | h
        · have hk2 : k2 < isC.length := by rw [lenC]; exact (List.getElem?_eq_some_iff.mp h).1
          have h3 : isC[k2]? = some isC[k2] := List.getElem?_eq_getElem hk2
          have h4 := key k2 _ h3
          rw [h] at h4
          have := hD.1 k _ q (q.1, e2) h2 h4 rfl
          exact hkC ⟨k2, by rw [this]; exact h3⟩
        · exact absurd (hP k q h2).lt (Nat.not_lt.mpr h)
  · obtain ⟨z1, a1, a2⟩ := old i x hi
    obtain ⟨z2, b1, b2⟩ := old j y hj
    exact hD.1 i j z1 z2 a1 b1 (by rw [a2, b2, hxy])
  · obtain ⟨z, a1, a2⟩ := old k q h
    rw [← a2]
    exact hD.2 k z a1
theorem k_nd : ∀ (l : List Nat), l.Nodup → va_nd l = true
  | [], _ => rfl
  | a :: l, h => by
    rw [List.nodup_cons] at h
    simp only [va_nd, Bool.and_eq_true, decide_eq_true_eq]
    exact ⟨h.1, k_nd l h.2⟩
theorem k_sfx (pre w0 : va_W) : (List.range' pre.length w0.length).map (fun i => (pre ++ w0)[i]?) = w0.map some := by
  apply List.ext_getElem?
  intro i
  rw [List.getElem?_map, List.getElem?_map]
  by_cases hi : i < w0.length
  · rw [List.getElem?_range' hi, List.getElem?_eq_getElem hi]
    show some ((pre ++ w0)[pre.length + 1 * i]?) = _
    rw [List.getElem?_append_right (by omega), show pre.length + 1 * i - pre.length = i by omega, List.getElem?_eq_getElem hi]
    rfl
  · rw [List.getElem?_eq_none (by simp; omega), List.getElem?_eq_none (by omega)]
    rfl
theorem k_pfx (pre w0 : va_W) : (List.range pre.length).map (fun i => (pre ++ w0)[i]?) = pre.map some := by
  apply List.ext_getElem?
  intro i
  rw [List.getElem?_map, List.getElem?_map]
  by_cases hi : i < pre.length
  · rw [List.getElem?_range hi, List.getElem?_eq_getElem hi]
    show some ((pre ++ w0)[i]?) = _
    rw [List.getElem?_append_left hi, List.getElem?_eq_getElem hi]
    rfl
  · rw [List.getElem?_eq_none (by simp; omega), List.getElem?_eq_none (by omega)]
    rfl
theorem k_callVI (isC js ps : List Nat) (cs : va_W) (S : CallFix p m c cc nL s args Ts own) (hT : k_T D cI cZ cN s) (hZ : k_S aK aV A s s.heap) (hA : ∀ q, s.heap.size ≤ q → A q) (hP : va_P D vwCl ws H) (hD : va_D A ws) (hS : va_S A s.heap H locs)
    (hM : CtI l D cI cZ cN aK aV y Ws rm (.ref b :: As) w0 r w1) (cw : CallW R s args own C idx y bytes maxL ret Ws rm 0 0 n) {ci : Nat} {T : u_T} {N : Nat} {fs : List Value} {qb : Nat} (hci : vwCl[ci]? = some (C, T, N)) (hb0 : w0[qb]? = some (b, .inr (ci, fs)))
    (hC : isC.map (fun i => ws[i]?) = w0.map some) (hnC : va_nd isC = true) (hnj : va_nd js = true) (hnp : va_nd ps = true) (hps : js.map (fun j => isC[j]?) = ps.map some) (hcs : cs.map (fun q => some q.1) = js.map (fun j => (w0[j]?).map (fun q => q.1))) (hw1 : w1 = k_put w0 js cs) (hn : As.length = n) (hsize : ls.size = nL) (hst : st = As.reverse ++ .ref b :: rest) (hW : (rest.map fun v => v.category).sum ≤ 8) (hdg : decode cc pc = .ok (.invokevirtual idx, 3))
    (kk : ∀ (H1 : Heap) (locs1 : List Loc), va_P D vwCl (k_put ws ps cs) H1 → va_D A (k_put ws ps cs) → va_S A s.heap H1 locs1 → W p l e R s m args below meth c H1 locs1 0 0 Q (F0 m (pc + 3) ls (.int r :: rest))) : W p l e R s m args below meth c H locs 0 0 Q (F0 m pc ls st) := by
  subst hst
  subst hw1
  have hPc := k_Psub hP isC hC
  have hDc := hD.sub isC hnC hC
  have hFc := va_free hD hS hA isC hC
  refine va_calli (va_runV (As := As) (rest := rest) S (hM H.size) cw ⟨k_blind, va_recv hT.1 hPc hci hb0, fun U hU hW => ⟨rfl, by rw [hU], by rw [hU]; exact hPc, hT.warm hW, hDc.weaken (fun _ _ _ _ => trivial), hZ.call hS hFc hU hW⟩⟩ rfl hn hsize rfl (lv_room hW) hdg ⟨Nat.zero_le _, Nat.zero_le _⟩) hS (fun q _ h => hFc q h) hFc (fun r2 u t H1 locs1 ht hvm hw hB hz1 hk1 hS1 => ?_)
  subst hw
  obtain ⟨hP1, hD1⟩ := hB
  rw [ht] at hP1
  obtain ⟨hP2, hD2⟩ := k_back2 hP hD hC hnj hnp hps hcs hk1 hP1
  exact kk H1 locs1 hP2 hD2 hS1
theorem k_callVIr (isC : List Nat) (S : CallFix p m c cc nL s args Ts own) (hT : k_T D cI cZ cN s) (hZ : k_S aK aV A s s.heap) (hA : ∀ q, s.heap.size ≤ q → A q) (hP : va_P D vwCl ws H) (hD : va_D A ws) (hS : va_S A s.heap H locs)
    (hM : CtI l D cI cZ cN aK aV y Ws rm (.ref b :: As) w0 r w0) (cw : CallW R s args own C idx y bytes maxL ret Ws rm 0 0 n) {ci : Nat} {T : u_T} {N : Nat} {fs : List Value} {qb : Nat} (hci : vwCl[ci]? = some (C, T, N)) (hb0 : w0[qb]? = some (b, .inr (ci, fs)))
    (hC : isC.map (fun i => ws[i]?) = w0.map some) (hnC : va_nd isC = true) (hn : As.length = n) (hsize : ls.size = nL) (hst : st = As.reverse ++ .ref b :: rest) (hW : (rest.map fun v => v.category).sum ≤ 8) (hdg : decode cc pc = .ok (.invokevirtual idx, 3))
    (kk : ∀ (H1 : Heap) (locs1 : List Loc), va_P D vwCl ws H1 → va_D A ws → va_S A s.heap H1 locs1 → W p l e R s m args below meth c H1 locs1 0 0 Q (F0 m (pc + 3) ls (.int r :: rest))) : W p l e R s m args below meth c H locs 0 0 Q (F0 m pc ls st) := by
  subst hst
  have hPc := k_Psub hP isC hC
  have hDc := hD.sub isC hnC hC
  have hFc := va_free hD hS hA isC hC
  refine va_calli (va_runV (As := As) (rest := rest) S (hM H.size) cw ⟨k_blind, va_recv hT.1 hPc hci hb0, fun U hU hW => ⟨rfl, by rw [hU], by rw [hU]; exact hPc, hT.warm hW, hDc.weaken (fun _ _ _ _ => trivial), hZ.call hS hFc hU hW⟩⟩ rfl hn hsize rfl (lv_room hW) hdg ⟨Nat.zero_le _, Nat.zero_le _⟩) hS (fun q _ h => hFc q h) hFc (fun r2 u t H1 locs1 ht hvm hw hB hz1 hk1 hS1 => ?_)
  subst hw
  obtain ⟨hP1, hD1⟩ := hB
  rw [ht] at hP1
  exact kk H1 locs1 (k_same hP hD hC hk1 hP1) hD hS1
theorem k_callVV (isC js ps : List Nat) (cs : va_W) (S : CallFix p m c cc nL s args Ts own) (hT : k_T D cI cZ cN s) (hZ : k_S aK aV A s s.heap) (hA : ∀ q, s.heap.size ≤ q → A q) (hP : va_P D vwCl ws H) (hD : va_D A ws) (hS : va_S A s.heap H locs)
    (hM : CtV l D cI cZ cN aK aV y Ws rm (.ref b :: As) w0 w1) (cw : CallW R s args own C idx y bytes maxL ret Ws rm 0 0 n) {ci : Nat} {T : u_T} {N : Nat} {fs : List Value} {qb : Nat} (hci : vwCl[ci]? = some (C, T, N)) (hb0 : w0[qb]? = some (b, .inr (ci, fs)))
    (hC : isC.map (fun i => ws[i]?) = w0.map some) (hnC : va_nd isC = true) (hnj : va_nd js = true) (hnp : va_nd ps = true) (hps : js.map (fun j => isC[j]?) = ps.map some) (hcs : cs.map (fun q => some q.1) = js.map (fun j => (w0[j]?).map (fun q => q.1))) (hw1 : w1 = k_put w0 js cs) (hn : As.length = n) (hsize : ls.size = nL) (hst : st = As.reverse ++ .ref b :: rest) (hW : (rest.map fun v => v.category).sum ≤ 8) (hdg : decode cc pc = .ok (.invokevirtual idx, 3))
    (kk : ∀ (H1 : Heap) (locs1 : List Loc), va_P D vwCl (k_put ws ps cs) H1 → va_D A (k_put ws ps cs) → va_S A s.heap H1 locs1 → W p l e R s m args below meth c H1 locs1 0 0 Q (F0 m (pc + 3) ls rest)) : W p l e R s m args below meth c H locs 0 0 Q (F0 m pc ls st) := by
  subst hst
  subst hw1
  have hPc := k_Psub hP isC hC
  have hDc := hD.sub isC hnC hC
  have hFc := va_free hD hS hA isC hC
  refine va_callv (va_runV (As := As) (rest := rest) S (hM H.size) cw ⟨k_blind, va_recv hT.1 hPc hci hb0, fun U hU hW => ⟨rfl, by rw [hU], by rw [hU]; exact hPc, hT.warm hW, hDc.weaken (fun _ _ _ _ => trivial), hZ.call hS hFc hU hW⟩⟩ rfl hn hsize rfl (lv_room hW) hdg ⟨Nat.zero_le _, Nat.zero_le _⟩) hS (fun q _ h => hFc q h) hFc (fun u t H1 locs1 ht hvm hw hB hz1 hk1 hS1 => ?_)
  obtain ⟨hP1, hD1⟩ := hB
  rw [ht] at hP1
  obtain ⟨hP2, hD2⟩ := k_back2 hP hD hC hnj hnp hps hcs hk1 hP1
  exact kk H1 locs1 hP2 hD2 hS1
theorem k_callSV (isC js ps : List Nat) (cs : va_W) (S : CallFix p m c cc nL s args Ts own) (hT : k_T D cI cZ cN s) (hZ : k_S aK aV A s s.heap) (hA : ∀ q, s.heap.size ≤ q → A q) (hP : va_P D vwCl ws H) (hD : va_D A ws) (hS : va_S A s.heap H locs)
    (hM : CtV l D cI cZ cN aK aV y Ws rm As w0 w1) (cw : CallB R s args own idx y bytes maxL ret Ws rm 0 0 n ∧ (Cond.static y).before args s = true)
    (hC : isC.map (fun i => ws[i]?) = w0.map some) (hnC : va_nd isC = true) (hnj : va_nd js = true) (hnp : va_nd ps = true) (hps : js.map (fun j => isC[j]?) = ps.map some) (hcs : cs.map (fun q => some q.1) = js.map (fun j => (w0[j]?).map (fun q => q.1))) (hw1 : w1 = k_put w0 js cs) (hn : As.length = n) (hsize : ls.size = nL) (hst : st = As.reverse ++ rest) (hW : (rest.map fun v => v.category).sum ≤ 8) (hdg : decode cc pc = .ok (.invokestatic idx, 3))
    (kk : ∀ (H1 : Heap) (locs1 : List Loc), va_P D vwCl (k_put ws ps cs) H1 → va_D A (k_put ws ps cs) → va_S A s.heap H1 locs1 → W p l e R s m args below meth c H1 locs1 0 0 Q (F0 m (pc + 3) ls rest)) : W p l e R s m args below meth c H locs 0 0 Q (F0 m pc ls st) := by
  subst hst
  subst hw1
  have hPc := k_Psub hP isC hC
  have hDc := hD.sub isC hnC hC
  have hFc := va_free hD hS hA isC hC
  refine va_callv (va_runS (As := As) (rest := rest) S (hM H.size) cw ⟨k_blind, fun U hU hW => ⟨rfl, by rw [hU], by rw [hU]; exact hPc, hT.warm hW, hDc.weaken (fun _ _ _ _ => trivial), hZ.call hS hFc hU hW⟩⟩ rfl hn hsize rfl (lv_room hW) hdg ⟨Nat.zero_le _, Nat.zero_le _⟩) hS (fun q _ h => hFc q h) hFc (fun u t H1 locs1 ht hvm hw hB hz1 hk1 hS1 => ?_)
  obtain ⟨hP1, hD1⟩ := hB
  rw [ht] at hP1
  obtain ⟨hP2, hD2⟩ := k_back2 hP hD hC hnj hnp hps hcs hk1 hP1
  exact kk H1 locs1 hP2 hD2 hS1
theorem k_callVVs (pre : va_W) (S : CallFix p m c cc nL s args Ts own) (hT : k_T D cI cZ cN s) (hZ : k_S aK aV A s s.heap) (hA : ∀ q, s.heap.size ≤ q → A q) (hP : va_P D vwCl ws H) (hD : va_D A ws) (hS : va_S A s.heap H locs)
    (hM : CtV l D cI cZ cN aK aV y Ws rm (.ref b :: As) w0 w1) (cw : CallW R s args own C idx y bytes maxL ret Ws rm 0 0 n) {ci : Nat} {T : u_T} {N : Nat} {fs : List Value} {qb : Nat} (hci : vwCl[ci]? = some (C, T, N)) (hb0 : w0[qb]? = some (b, .inr (ci, fs)))
    (hws : ws = pre ++ w0) (hlen : w1.length = w0.length) (hn : As.length = n) (hsize : ls.size = nL) (hst : st = As.reverse ++ .ref b :: rest) (hW : (rest.map fun v => v.category).sum ≤ 8) (hdg : decode cc pc = .ok (.invokevirtual idx, 3))
    (kk : ∀ (H1 : Heap) (locs1 : List Loc), va_P D vwCl (pre ++ w1) H1 → va_D A (pre ++ w1) → va_S A s.heap H1 locs1 → W p l e R s m args below meth c H1 locs1 0 0 Q (F0 m (pc + 3) ls rest)) : W p l e R s m args below meth c H locs 0 0 Q (F0 m pc ls st) := by
  subst hst
  subst hws
  have hC := k_sfx pre w0
  have hnC := k_nd (List.range' pre.length w0.length) List.nodup_range'
  generalize hie : List.range' pre.length w0.length = isC at hC hnC
  have hPc := k_Psub hP isC hC
  have hDc := hD.sub isC hnC hC
  have hFc := va_free hD hS hA isC hC
  refine va_callv (va_runV (As := As) (rest := rest) S (hM H.size) cw ⟨k_blind, va_recv hT.1 hPc hci hb0, fun U hU hW => ⟨rfl, by rw [hU], by rw [hU]; exact hPc, hT.warm hW, hDc.weaken (fun _ _ _ _ => trivial), hZ.call hS hFc hU hW⟩⟩ rfl hn hsize rfl (lv_room hW) hdg ⟨Nat.zero_le _, Nat.zero_le _⟩) hS (fun q _ h => hFc q h) hFc (fun u t H1 locs1 ht hvm hw hB hz1 hk1 hS1 => ?_)
  obtain ⟨hP1, hD1⟩ := hB
  rw [ht] at hP1
  obtain ⟨hP2, hD2⟩ := va_join (wr := pre) hP hD isC (List.range pre.length) hC (k_pfx pre w0) (k_nd _ List.nodup_range) (fun i h1 h2 => by rw [← hie] at h2; simp only [List.mem_range, List.mem_range'_1] at h1 h2; omega) hk1 hFc hP1 hD1
  exact kk H1 locs1 hP2 hD2 hS1
theorem k_callVIs (pre : va_W) (S : CallFix p m c cc nL s args Ts own) (hT : k_T D cI cZ cN s) (hZ : k_S aK aV A s s.heap) (hA : ∀ q, s.heap.size ≤ q → A q) (hP : va_P D vwCl ws H) (hD : va_D A ws) (hS : va_S A s.heap H locs)
    (hM : CtI l D cI cZ cN aK aV y Ws rm (.ref b :: As) w0 r w1) (cw : CallW R s args own C idx y bytes maxL ret Ws rm 0 0 n) {ci : Nat} {T : u_T} {N : Nat} {fs : List Value} {qb : Nat} (hci : vwCl[ci]? = some (C, T, N)) (hb0 : w0[qb]? = some (b, .inr (ci, fs)))
    (hws : ws = pre ++ w0) (hlen : w1.length = w0.length) (hn : As.length = n) (hsize : ls.size = nL) (hst : st = As.reverse ++ .ref b :: rest) (hW : (rest.map fun v => v.category).sum ≤ 8) (hdg : decode cc pc = .ok (.invokevirtual idx, 3))
    (kk : ∀ (H1 : Heap) (locs1 : List Loc), va_P D vwCl (pre ++ w1) H1 → va_D A (pre ++ w1) → va_S A s.heap H1 locs1 → W p l e R s m args below meth c H1 locs1 0 0 Q (F0 m (pc + 3) ls (.int r :: rest))) : W p l e R s m args below meth c H locs 0 0 Q (F0 m pc ls st) := by
  subst hst
  subst hws
  have hC := k_sfx pre w0
  have hnC := k_nd (List.range' pre.length w0.length) List.nodup_range'
  generalize hie : List.range' pre.length w0.length = isC at hC hnC
  have hPc := k_Psub hP isC hC
  have hDc := hD.sub isC hnC hC
  have hFc := va_free hD hS hA isC hC
  refine va_calli (va_runV (As := As) (rest := rest) S (hM H.size) cw ⟨k_blind, va_recv hT.1 hPc hci hb0, fun U hU hW => ⟨rfl, by rw [hU], by rw [hU]; exact hPc, hT.warm hW, hDc.weaken (fun _ _ _ _ => trivial), hZ.call hS hFc hU hW⟩⟩ rfl hn hsize rfl (lv_room hW) hdg ⟨Nat.zero_le _, Nat.zero_le _⟩) hS (fun q _ h => hFc q h) hFc (fun r2 u t H1 locs1 ht hvm hw hB hz1 hk1 hS1 => ?_)
  subst hw
  obtain ⟨hP1, hD1⟩ := hB
  rw [ht] at hP1
  obtain ⟨hP2, hD2⟩ := va_join (wr := pre) hP hD isC (List.range pre.length) hC (k_pfx pre w0) (k_nd _ List.nodup_range) (fun i h1 h2 => by rw [← hie] at h2; simp only [List.mem_range, List.mem_range'_1] at h1 h2; omega) hk1 hFc hP1 hD1
  exact kk H1 locs1 hP2 hD2 hS1
/-- a static method that touches no cell: the world stays as it is -/
theorem k_call0 (S : CallFix p m c cc nL s args Ts own) (hT : k_T D cI cZ cN s) (hZ : k_S aK aV A s s.heap) (hA : ∀ q, s.heap.size ≤ q → A q) (hP : va_P D vwCl ws H) (hD : va_D A ws) (hS : va_S A s.heap H locs)
    (hM : CtI l D cI cZ cN aK aV y Ws rm As [] r []) (cw : CallB R s args own idx y bytes maxL ret Ws rm 0 0 n ∧ (Cond.static y).before args s = true)
    (hn : As.length = n) (hsize : ls.size = nL) (hst : st = As.reverse ++ rest) (hW : (rest.map fun v => v.category).sum ≤ 8) (hdg : decode cc pc = .ok (.invokestatic idx, 3))
    (kk : ∀ (H1 : Heap) (locs1 : List Loc), va_P D vwCl ws H1 → va_D A ws → va_S A s.heap H1 locs1 → W p l e R s m args below meth c H1 locs1 0 0 Q (F0 m (pc + 3) ls (.int r :: rest))) : W p l e R s m args below meth c H locs 0 0 Q (F0 m pc ls st) := by
  subst hst
  have hFc : ∀ q, va_A [] H.size q → A q := va_free (wc := []) hD hS hA [] rfl
  refine va_calli (va_runS (As := As) (rest := rest) S (hM H.size) cw ⟨k_blind, fun U hU hW => ⟨rfl, by rw [hU], (fun k q h => by simp at h), hT.warm hW, ⟨fun i j p q h => by simp at h, fun k q h => by simp at h⟩, hZ.call hS hFc hU hW⟩⟩ rfl hn hsize rfl (lv_room hW) hdg ⟨Nat.zero_le _, Nat.zero_le _⟩) hS (fun q _ h => hFc q h) hFc (fun r2 u t H1 locs1 ht hvm hw hB hz1 hk1 hS1 => ?_)
  subst hw
  exact kk H1 locs1 (fun k q hq => (hP k q hq).kept (hk1 q.1 (hP k q hq).lt (fun h => by
    rcases h with ⟨k2, e2, h⟩ | h
    · simp at h
    · exact absurd (hP k q hq).lt (Nat.not_lt.mpr h)))) hD hS1
theorem k_call0N {host : String} (S : CallFix p m c cc nL s args Ts own) (hT : k_T D cI cZ cN s) (hZ : k_S aK aV A s s.heap) (hA : ∀ q, s.heap.size ≤ q → A q) (hP : va_P D vwCl ws H) (hD : va_D A ws) (hS : va_S A s.heap H locs)
    (hM : CtI l D cI cZ cN aK aV y Ws rm As [] r []) (cw : va_CN R s args own idx y host bytes maxL ret Ws rm 0 0 n ∧ (Cond.static y).before args s = true ∧ True)
    (hn : As.length = n) (hsize : ls.size = nL) (hst : st = As.reverse ++ rest) (hW : (rest.map fun v => v.category).sum ≤ 8) (hdg : decode cc pc = .ok (.invokestatic idx, 3))
    (kk : ∀ (H1 : Heap) (locs1 : List Loc), va_P D vwCl ws H1 → va_D A ws → va_S A s.heap H1 locs1 → W p l e R s m args below meth c H1 locs1 0 0 Q (F0 m (pc + 3) ls (.int r :: rest))) : W p l e R s m args below meth c H locs 0 0 Q (F0 m pc ls st) := by
  subst hst
  have hFc : ∀ q, va_A [] H.size q → A q := va_free (wc := []) hD hS hA [] rfl
  refine va_calli (va_runSN (As := As) (rest := rest) S (hM H.size) cw ⟨k_blind, fun U hU hW => ⟨rfl, by rw [hU], (fun k q h => by simp at h), hT.warm hW, ⟨fun i j p q h => by simp at h, fun k q h => by simp at h⟩, hZ.call hS hFc hU hW⟩⟩ rfl hn hsize rfl (lv_room hW) hdg ⟨Nat.zero_le _, Nat.zero_le _⟩) hS (fun q _ h => hFc q h) hFc (fun r2 u t H1 locs1 ht hvm hw hB hz1 hk1 hS1 => ?_)
  subst hw
  exact kk H1 locs1 (fun k q hq => (hP k q hq).kept (hk1 q.1 (hP k q hq).lt (fun h => by
    rcases h with ⟨k2, e2, h⟩ | h
    · simp at h
    · exact absurd (hP k q hq).lt (Nat.not_lt.mpr h)))) hD hS1
end KB
/-- a place of an array, looked at in the pure text -/
def inb (i : Int32) (n : Nat) : Bool := decide (¬ (i < 0 ∨ n ≤ i.toNatClampNeg))
theorem inb_in {i : Int32} {n : Nat} (h : inb i n = true) : vp_in i n := of_decide_eq_true (p := ¬ (i < 0 ∨ n ≤ i.toNatClampNeg)) h
theorem in_inb {i : Int32} {n : Nat} (h : vp_in i n) : inb i n = true := decide_eq_true (p := ¬ (i < 0 ∨ n ≤ i.toNatClampNeg)) h
theorem inb_nI {k n : Nat} (h : k < n) (hn : n < 2 ^ 31) : inb (nI k) n = true := in_inb (vp_in_nI h hn)
def isb (r : Int32) : Bool := decide (r = 0 ∨ r = 1)
theorem isb_or {r : Int32} (h : isb r = true) : r = 0 ∨ r = 1 := of_decide_eq_true h
theorem ob_if {α : Type} {b : Bool} {x : Option α} {o : α} (h : (if b = true then x else none) = some o) : b = true ∧ x = some o := by
  cases b with
  | true => exact ⟨rfl, h⟩
  | false => cases h
theorem ob_bind {α β : Type} {x : Option α} {f : α → Option β} {o : β} (h : x.bind f = some o) : ∃ a, x = some a ∧ f a = some o := by
  cases x with
  | none => cases h
  | some a => exact ⟨a, rfl, h⟩
theorem k_swo {x : Int32} (lo hi : Int) (h1 : -2147483648 ≤ lo) (h2 : hi ≤ 2147483647) (h : ∀ j : Int, lo ≤ j → j ≤ hi → ¬ x = Int32.ofInt j) : x.toInt < lo ∨ hi < x.toInt := by
  by_cases a : x.toInt < lo
  · exact Or.inl a
  · by_cases b : hi < x.toInt
    · exact Or.inr b
    · exact absurd (Int32.ofInt_toInt x).symm (h x.toInt (by omega) (by omega))
