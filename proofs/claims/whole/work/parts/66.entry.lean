/-! THE CLAIM OUT OF ONE WALK OF THE LAW'S BODY. Your part is whole_start (and what it stands on); all else here is the same for every law, but numbers. -/
def R_law : String := "CallWays2Law"
def lw_P (b : Addr) (xs : List Int32) (args : Array Value) (s : State) : Prop := args = #[.ref b] ∧ s.IntsAt b xs ∧ xs.length ≤ 3584 ∧ (Jvm.Cond.and given_1 narrow_1).before args s = true
/-- what a walk over the start with the record d0 says of its end, said of the start itself -/
theorem lw_closed {s t : State} {o : Outcome} {d0 : Drawn} {L : List Loc} {k n : Nat} (hd0 : s.drawn.sameBut d0 lw_cs) (hv : ∃ v, o = .returned v) (hW : (s.setDrawn d0).WarmedH t.vm) (hs : (s.setDrawn d0).sameButNew ({ t with vm := s.vm } : State) L k n) : State.butDraws s t lw_cs (fun t1 => Framed s o t1 L k n) := by
  have h2 : t.drawn = d0 := congrArg State.drawn hs.1
  refine ⟨⟨hv, hW, State.sameButNew.setDrawn hs s.drawn⟩, ?_, by decide⟩
  rw [h2]
  exact hd0
def lw_Q (_ : Array Value) (s : State) (o : Outcome) (t : State) : Prop := o = .returned (some (.int 1)) ∧ State.butDraws s t lw_cs (fun t1 => Framed s o t1 [] 600000 7302250)
def lw_Z (below : List Frame) (a : Array Value) (s : State) : State → Prop := fun t => ∃ o, t.status = .running ∧ Ended t below o ∧ lw_Q a s o t
/-- the law's own end, with 1 on the stack, nothing written that was there before, its room as the claim has it; d0: the record of draws at this point (at the entry s.drawn: begin with 'refine W.base ?_' and 'have hd0 := Drawn.sameBut.refl s.drawn lw_cs') -/
theorem lw_ret {p : Program} {l : Launch} {e : Env} {s : State} {m : MethodId} {below : List Frame} {meth : Method} {c : Code} {b : Nat} {d0 : Drawn} (hd0 : s.drawn.sameBut d0 lw_cs) (hx : p.tables.exec = Jvm.exec) (hb : c.code = code) (hr : meth.sig.returnType = ret) (hlocks : meth.locks = false) {pc : Nat} {H : Heap} {ls : Array Slot} (hdg : decode code pc = .ok (.ireturn, 1)) : W p l e room_1 (s.setDrawn d0) m #[Value.ref b] below meth c H [] 600000 7302250 (lw_Z below #[Value.ref b] s) (F0 m pc ls [.int 1]) := by
  intro T hT X
  obtain ⟨fs, hret, hrun, hended, hW, hframe⟩ := X.leave (v := some (.int 1)) (hlocks := hlocks) (fun h => by rw [hr] at h; cases h)
  have hmeth' : T.vm.method? m = some meth := X.method'
  refine ⟨T.setFrames fs, ?_, .returned (some (.int 1)), hrun, hended, rfl, lw_closed hd0 ⟨_, rfl⟩ hW hframe⟩
  jvm_step X.here [X.here.top, hx, hb, hdg, hmeth', hr, ret, narrow_b1]
  (try refine ⟨rfl, ?_⟩); (try refine ⟨rfl, ?_⟩)
  first | (intro acts; rw [hret _ acts rfl rfl rfl]) | rw [hret _ _ rfl rfl rfl]
  exact Steps.refl _
/-- what holds at the law's entry: the machine, the code, the tables' words (any of lw_tbl by 'hts w (by decide +kernel)'), the script of L ints xs at the cell b, what the Statement gives of the start (any of its parts by flat_of_before) -/
def lw_At (p : Program) (s : State) (m : MethodId) (meth : Method) (c : Code) (b L : Nat) (xs : Nat → Int32) : Prop :=
  p.tables.exec = Jvm.exec ∧ c.code = code ∧ meth.sig.returnType = ret ∧ c.maxLocals = 4 ∧ s.vm.findClass R_law = some m.cls ∧ (∀ w ∈ lw_tbl, w.before #[Value.ref b] s = true) ∧ va_X b L xs s s.heap ∧ b < s.heap.size ∧ meth.locks = false ∧ (Jvm.Cond.and given_1 narrow_1).before #[Value.ref b] s = true
/-! WHAT THE TABLES SAY AT THE LAW'S ENTRY -/
theorem arr_kn {s : State} {A : Array Value} {ty : FieldType} (h : (Cond.arrayClass ty).before A s = true) : ∃ cA, ArrOfT s cA ty ∧ s.vm.findClass ("[" ++ ty.toString) = some cA := by
  obtain ⟨cA, k, comp, h1, h2, h3⟩ := Cond.arrayClass_spec h
  exact ⟨cA, fun n z => ⟨fun k h => (by cases h), k, h2, comp, h3⟩, h1⟩
theorem arr_ko {s : State} {A : Array Value} {C : String} (h : (Cond.arrayOver (.object C)).before A s = true) : ∃ cA, ArrOfT s cA (.object C) ∧ va_RA s cA (.object C) := by
  obtain ⟨comp, cA, k, h1, h2, h3, h4, h5⟩ := Cond.arrayOver_spec h
  exact ⟨cA, fun n z => ⟨fun k h => (by cases h), k, h3, comp, h4⟩, k, comp, h3, h4, h1, h5⟩
set_option maxRecDepth 20000 in
theorem tb_c0 : Cond.castable "[D" "java/lang/Cloneable" ∈ lw_tbl := (List.mem_of_getElem? (i := 260) (by decide +kernel))
set_option maxRecDepth 20000 in
theorem tb_c1 : Cond.castable RX0 "CallWays2$Instrument" ∈ lw_tbl := (List.mem_of_getElem? (i := 711) (by decide +kernel))
set_option maxRecDepth 20000 in
theorem tb_c2 : Cond.castable RX2 "CallWays2$Instrument" ∈ lw_tbl := (List.mem_of_getElem? (i := 710) (by decide +kernel))
set_option maxRecDepth 20000 in
theorem tb_c3 : Cond.castable RX4 "CallWays2$Instrument" ∈ lw_tbl := (List.mem_of_getElem? (i := 709) (by decide +kernel))
set_option maxRecDepth 20000 in
theorem tb_c4 : Cond.castable RX6 "CallWays2$Instrument" ∈ lw_tbl := (List.mem_of_getElem? (i := 712) (by decide +kernel))
set_option maxRecDepth 20000 in
theorem tb_c5 : Cond.castable RX8 "CallWays2$Instrument" ∈ lw_tbl := (List.mem_of_getElem? (i := 713) (by decide +kernel))
set_option maxRecDepth 20000 in
theorem tb_m0 : Cond.methodLinkNest RX9 178 yX4_init RX9 ∈ lw_tbl := (List.mem_of_getElem? (i := 92) (by decide +kernel))
set_option maxRecDepth 20000 in
theorem tb_m1 : Cond.methodLinkNest RX4 1 yX8_init RX9 ∈ lw_tbl := (List.mem_of_getElem? (i := 95) (by decide +kernel))
set_option maxRecDepth 20000 in
theorem tb_m2 : Cond.methodLinkNest RX8 1 yX5_init RX9 ∈ lw_tbl := (List.mem_of_getElem? (i := 98) (by decide +kernel))
set_option maxRecDepth 20000 in
theorem tb_m3 : Cond.methodLinkNest RX9 181 yX2_init RX9 ∈ lw_tbl := (List.mem_of_getElem? (i := 156) (by decide +kernel))
set_option maxRecDepth 20000 in
theorem tb_m4 : Cond.methodLinkNest RX2 3 yX5_init RX9 ∈ lw_tbl := (List.mem_of_getElem? (i := 159) (by decide +kernel))
set_option maxRecDepth 20000 in
theorem tb_m5 : Cond.methodLinkNest RX9 184 yX0_init RX9 ∈ lw_tbl := (List.mem_of_getElem? (i := 170) (by decide +kernel))
set_option maxRecDepth 20000 in
theorem tb_m6 : Cond.methodLinkNest RX0 3 yX2_init RX9 ∈ lw_tbl := (List.mem_of_getElem? (i := 173) (by decide +kernel))
set_option maxRecDepth 20000 in
theorem tb_m7 : Cond.methodLinkNest RX9 187 yX6_init RX9 ∈ lw_tbl := (List.mem_of_getElem? (i := 184) (by decide +kernel))
set_option maxRecDepth 20000 in
theorem tb_m8 : Cond.methodLinkNest RX6 3 yX5_init RX9 ∈ lw_tbl := (List.mem_of_getElem? (i := 187) (by decide +kernel))
set_option maxRecDepth 20000 in
theorem tb_m9 : Cond.methodLinkNest RX9 190 yX8_init RX9 ∈ lw_tbl := (List.mem_of_getElem? (i := 198) (by decide +kernel))
set_option maxRecDepth 20000 in
theorem tb_d0 : Cond.declares ⟨"CallWays2$Instrument", "give", "()D"⟩ ∈ lw_tbl := (List.mem_of_getElem? (i := 398) (by decide +kernel))
set_option maxRecDepth 20000 in
theorem tb_d1 : Cond.declares ⟨"CallWays2$Instrument", "fail", "(I)D"⟩ ∈ lw_tbl := (List.mem_of_getElem? (i := 405) (by decide +kernel))
set_option maxRecDepth 20000 in
theorem tb_a0 : Cond.arrayOver (.object "CallWays2$Instrument") ∈ lw_tbl := (List.mem_of_getElem? (i := 43) (by decide +kernel))
set_option maxRecDepth 20000 in
theorem tb_a1 : Cond.arrayOver (.object "CallWays2$Samples") ∈ lw_tbl := (List.mem_of_getElem? (i := 45) (by decide +kernel))
set_option maxRecDepth 20000 in
theorem tb_a2 : Cond.arrayOver (.object "CallWays2$Function") ∈ lw_tbl := (List.mem_of_getElem? (i := 47) (by decide +kernel))
set_option maxRecDepth 20000 in
theorem tb_t0 : Cond.arrayClass .int ∈ lw_tbl := (List.mem_of_getElem? (i := 153) (by decide +kernel))
set_option maxRecDepth 20000 in
theorem tb_t1 : Cond.arrayClass .long ∈ lw_tbl := (List.mem_of_getElem? (i := 549) (by decide +kernel))
set_option maxRecDepth 20000 in
theorem tb_t2 : Cond.arrayClass .double ∈ lw_tbl := (List.mem_of_getElem? (i := 82) (by decide +kernel))
set_option maxRecDepth 20000 in
theorem tb_t3 : Cond.arrayClass .boolean ∈ lw_tbl := (List.mem_of_getElem? (i := 550) (by decide +kernel))
set_option maxRecDepth 20000 in
theorem tb_iX0 : Cond.instantiable RX0 7 ∈ lw_tbl := (List.mem_of_getElem? (i := 169) (by decide +kernel))
set_option maxRecDepth 20000 in
theorem tb_iX2 : Cond.instantiable RX2 7 ∈ lw_tbl := (List.mem_of_getElem? (i := 155) (by decide +kernel))
set_option maxRecDepth 20000 in
theorem tb_iX3 : Cond.instantiable RX3 2 ∈ lw_tbl := (List.mem_of_getElem? (i := 360) (by decide +kernel))
set_option maxRecDepth 20000 in
theorem tb_iX4 : Cond.instantiable RX4 7 ∈ lw_tbl := (List.mem_of_getElem? (i := 91) (by decide +kernel))
set_option maxRecDepth 20000 in
theorem tb_iX6 : Cond.instantiable RX6 7 ∈ lw_tbl := (List.mem_of_getElem? (i := 183) (by decide +kernel))
set_option maxRecDepth 20000 in
theorem tb_iX7 : Cond.instantiable RX7 2 ∈ lw_tbl := (List.mem_of_getElem? (i := 254) (by decide +kernel))
set_option maxRecDepth 20000 in
theorem tb_iX8 : Cond.instantiable RX8 7 ∈ lw_tbl := (List.mem_of_getElem? (i := 197) (by decide +kernel))
set_option maxRecDepth 20000 in
theorem tb_iX9 : Cond.instantiable RX9 11 ∈ lw_tbl := (List.mem_of_getElem? (i := 35) (by decide +kernel))
set_option maxRecDepth 20000 in
theorem tb_iX10 : Cond.instantiable RX10 21 ∈ lw_tbl := (List.mem_of_getElem? (i := 480) (by decide +kernel))
theorem mE_of {s : State} {A : Array Value} (hts : ∀ w ∈ lw_tbl, w.before A s = true) : ∃ E : mEnv, mE E s := by
  obtain ⟨cX0, iX0, hX0⟩ := u_known (C := RX0) (T := TX0) (N := 7) (n := 7) hts inX0 (hts _ tb_iX0)
  obtain ⟨cX2, iX2, hX2⟩ := u_known (C := RX2) (T := TX2) (N := 7) (n := 7) hts inX2 (hts _ tb_iX2)
  obtain ⟨cX3, iX3, hX3⟩ := u_known (C := RX3) (T := TX3) (N := 2) (n := 2) hts inX3 (hts _ tb_iX3)
  obtain ⟨cX4, iX4, hX4⟩ := u_known (C := RX4) (T := TX4) (N := 7) (n := 7) hts inX4 (hts _ tb_iX4)
  obtain ⟨cX6, iX6, hX6⟩ := u_known (C := RX6) (T := TX6) (N := 7) (n := 7) hts inX6 (hts _ tb_iX6)
  obtain ⟨cX7, iX7, hX7⟩ := u_known (C := RX7) (T := TX7) (N := 2) (n := 2) hts inX7 (hts _ tb_iX7)
  obtain ⟨cX8, iX8, hX8⟩ := u_known (C := RX8) (T := TX8) (N := 7) (n := 7) hts inX8 (hts _ tb_iX8)
  obtain ⟨cX9, iX9, hX9⟩ := u_known (C := RX9) (T := TX9) (N := 11) (n := 11) hts inX9 (hts _ tb_iX9)
  obtain ⟨cX10, iX10, hX10⟩ := u_known (C := RX10) (T := TX10) (N := 21) (n := 21) hts inX10 (hts _ tb_iX10)
  obtain ⟨t0, g0, k0⟩ := arr_kn (hts _ tb_t0)
  obtain ⟨t1, g1, k1⟩ := arr_kn (hts _ tb_t1)
  obtain ⟨t2, g2, k2⟩ := arr_kn (hts _ tb_t2)
  obtain ⟨t3, g3, k3⟩ := arr_kn (hts _ tb_t3)
  obtain ⟨t4, g4, k4⟩ := arr_ko (hts _ tb_a0)
  obtain ⟨t5, g5, k5⟩ := arr_ko (hts _ tb_a1)
  obtain ⟨t6, g6, k6⟩ := arr_ko (hts _ tb_a2)
  obtain ⟨dC, dI, hK⟩ : ∃ (dC : Nat → ClassId) (dI : Nat → Nat → Nat), ∀ (k : Nat) (q : vw_C), vwCl[k]? = some q → u_Kn s q.1 q.2.1 q.2.2 (dC k) (dI k) := by
    refine ⟨fun k => if k = 0 then cX0 else (if k = 1 then cX2 else (if k = 2 then cX3 else (if k = 3 then cX4 else (if k = 4 then cX6 else (if k = 5 then cX7 else (if k = 6 then cX8 else (if k = 7 then cX9 else cX10))))))), fun k => if k = 0 then iX0 else (if k = 1 then iX2 else (if k = 2 then iX3 else (if k = 3 then iX4 else (if k = 4 then iX6 else (if k = 5 then iX7 else (if k = 6 then iX8 else (if k = 7 then iX9 else iX10))))))), ?_⟩
    intro k q hq
    match k, hq with
    | 0, hq => cases hq; exact hX0
    | 1, hq => cases hq; exact hX2
    | 2, hq => cases hq; exact hX3
    | 3, hq => cases hq; exact hX4
    | 4, hq => cases hq; exact hX6
    | 5, hq => cases hq; exact hX7
    | 6, hq => cases hq; exact hX8
    | 7, hq => cases hq; exact hX9
    | 8, hq => cases hq; exact hX10
    | k + 9, hq => simp at hq
  refine ⟨((dC, dI), fun k => if k = 0 then t0 else (if k = 1 then t1 else (if k = 2 then t2 else (if k = 3 then t3 else (if k = 4 then t4 else (if k = 5 then t5 else t6)))))), ⟨hK, ?_⟩, ?_, ?_, ?_, ?_⟩
  · intro k q hq
    match k, hq with
    | 0, hq =>
      have e9 := Option.some.inj (show some ((t0 : ClassId), (.int : FieldType)) = some q from hq)
      subst e9
      exact ⟨g0, k0⟩
    | 1, hq =>
      have e9 := Option.some.inj (show some ((t1 : ClassId), (.long : FieldType)) = some q from hq)
      subst e9
      exact ⟨g1, k1⟩
    | 2, hq =>
      have e9 := Option.some.inj (show some ((t2 : ClassId), (.double : FieldType)) = some q from hq)
      subst e9
      exact ⟨g2, k2⟩
    | 3, hq =>
      have e9 := Option.some.inj (show some ((t3 : ClassId), (.boolean : FieldType)) = some q from hq)
      subst e9
      exact ⟨g3, k3⟩
    | 4, hq =>
      have e9 := Option.some.inj (show some ((t4 : ClassId), (.object "CallWays2$Instrument" : FieldType)) = some q from hq)
      subst e9
      exact ⟨g4, k4⟩
    | 5, hq =>
      have e9 := Option.some.inj (show some ((t5 : ClassId), (.object "CallWays2$Samples" : FieldType)) = some q from hq)
      subst e9
      exact ⟨g5, k5⟩
    | 6, hq =>
      have e9 := Option.some.inj (show some ((t6 : ClassId), (.object "CallWays2$Function" : FieldType)) = some q from hq)
      subst e9
      exact ⟨g6, k6⟩
    | k + 7, hq => simp [mTys] at hq
  · intro q hq
    simp only [mNwC, List.mem_cons, List.not_mem_nil, or_false] at hq
    rcases hq with rfl | rfl | rfl | rfl | rfl | rfl
    · exact va_Nw.of rfl (hts _ tb_c0)
    · exact va_Nw.of rfl (hts _ tb_c1)
    · exact va_Nw.of rfl (hts _ tb_c2)
    · exact va_Nw.of rfl (hts _ tb_c3)
    · exact va_Nw.of rfl (hts _ tb_c4)
    · exact va_Nw.of rfl (hts _ tb_c5)
  · intro q hq
    simp only [mNwM, List.mem_cons, List.not_mem_nil, or_false] at hq
    rcases hq with rfl | rfl | rfl | rfl | rfl | rfl | rfl | rfl | rfl | rfl
    · exact va_Nw.of rfl (hts _ tb_m0)
    · exact va_Nw.of rfl (hts _ tb_m1)
    · exact va_Nw.of rfl (hts _ tb_m2)
    · exact va_Nw.of rfl (hts _ tb_m3)
    · exact va_Nw.of rfl (hts _ tb_m4)
    · exact va_Nw.of rfl (hts _ tb_m5)
    · exact va_Nw.of rfl (hts _ tb_m6)
    · exact va_Nw.of rfl (hts _ tb_m7)
    · exact va_Nw.of rfl (hts _ tb_m8)
    · exact va_Nw.of rfl (hts _ tb_m9)
  · intro q hq
    simp only [mNwD, List.mem_cons, List.not_mem_nil, or_false] at hq
    rcases hq with rfl | rfl
    · exact va_Nw.of rfl (hts _ tb_d0)
    · exact va_Nw.of rfl (hts _ tb_d1)
  · intro q hq
    simp only [mNwA, List.mem_cons, List.not_mem_nil, or_false] at hq
    rcases hq with rfl | rfl | rfl
    · exact va_AO.of (hts _ tb_a0)
    · exact va_AO.of (hts _ tb_a1)
    · exact va_AO.of (hts _ tb_a2)
