/-! THE MEMORY AS A FUNCTION: which cell lies at which address; rows of the kit said over it. A contract takes the whole memory of its caller and gives the new one back. -/
abbrev mMem : Type := Nat → Option va_E
def mUp (M : mMem) (a : Nat) (e : va_E) : mMem := fun q => if q = a then some e else M q
theorem mUp_self (M : mMem) (a : Nat) (e : va_E) : mUp M a e a = some e := if_pos rfl
theorem mUp_ne {M : mMem} {a q : Nat} {e : va_E} (h : q ≠ a) : mUp M a e q = M q := if_neg h
theorem mUp_at {M : mMem} {a q : Nat} {e e' : va_E} (h : q ≠ a) (hq : M q = some e') : mUp M a e q = some e' := (mUp_ne h).trans hq
theorem mUp_up (M : mMem) (a : Nat) (e e' : va_E) : mUp (mUp M a e) a e' = mUp M a e' := by
  funext q
  by_cases h : q = a
  · simp [mUp, h]
  · simp [mUp, h]
theorem mUp_id {M : mMem} {a : Nat} {e : va_E} (h : M a = some e) : mUp M a e = M := by
  funext q
  by_cases hq : q = a
  · rw [hq, mUp_self, h]
  · exact mUp_ne hq
theorem m_ne {M : mMem} {a b : Nat} {e e' : va_E} (ha : M a = some e) (hb : M b = some e') (h : e ≠ e') : a ≠ b := fun q => by
  subst q
  exact h (Option.some.inj (ha.symm.trans hb))
theorem m_neN {M : mMem} {a b : Nat} {e : va_E} (ha : M a = some e) (hb : M b = none) : a ≠ b := fun q => by
  subst q
  rw [hb] at ha
  cases ha
/-- the environment: the classes' numbers and slots, the array classes' numbers -/
abbrev mEnv : Type := va_G × (Nat → ClassId)
abbrev mI (E : mEnv) (n : Nat) (f : Nat → Int32) : va_E := .inl (E.2 0, n, .inl f)
abbrev mJ (E : mEnv) (n : Nat) (f : Nat → Int64) : va_E := .inl (E.2 1, n, .inr (.inl f))
abbrev mDb (E : mEnv) (n : Nat) (f : Nat → UInt64) : va_E := .inl (E.2 2, n, .inr (.inr (.inr (.inl f))))
abbrev mZ (E : mEnv) (n : Nat) (f : Nat → Int32) : va_E := .inl (E.2 3, n, .inl f)
abbrev mQ (E : mEnv) (k n : Nat) (f : Nat → Option Nat) : va_E := .inl (E.2 k, n, .inr (.inr (.inr (.inr f))))
abbrev mO (ci : Nat) (fs : List Value) : va_E := .inr (ci, fs)
def mTys (E : mEnv) : List (ClassId × FieldType) := [(E.2 0, .int), (E.2 1, .long), (E.2 2, .double), (E.2 3, .boolean), (E.2 4, .object "CallWays2$Instrument"), (E.2 5, .object "CallWays2$Samples"), (E.2 6, .object "CallWays2$Function")]
def mNwC : List (String × String) := [("[D", "java/lang/Cloneable"), (RX0, "CallWays2$Instrument"), (RX2, "CallWays2$Instrument"), (RX4, "CallWays2$Instrument"), (RX6, "CallWays2$Instrument"), (RX8, "CallWays2$Instrument")]
def mNwM : List (String × Nat × MethodName × String) := [(RX9, 178, yX4_init, RX9), (RX4, 1, yX8_init, RX9), (RX8, 1, yX5_init, RX9), (RX9, 181, yX2_init, RX9), (RX2, 3, yX5_init, RX9), (RX9, 184, yX0_init, RX9), (RX0, 3, yX2_init, RX9), (RX9, 187, yX6_init, RX9), (RX6, 3, yX5_init, RX9), (RX9, 190, yX8_init, RX9)]
def mNwD : List MethodName := [⟨"CallWays2$Instrument", "give", "()D"⟩, ⟨"CallWays2$Instrument", "fail", "(I)D"⟩]
def mNwA : List String := ["CallWays2$Instrument", "CallWays2$Samples", "CallWays2$Function"]
/-- what the tables say, beside the words: classes, array classes, casts, nest mates, abstract members, arrays of objects -/
def mE (E : mEnv) (U : State) : Prop := va_K E.1 vwCl (mTys E) U ∧ (∀ q ∈ mNwC, va_Nw (.castable q.1 q.2) U) ∧ (∀ q ∈ mNwM, va_Nw (.methodLinkNest q.1 q.2.1 q.2.2.1 q.2.2.2) U) ∧ (∀ q ∈ mNwD, va_Nw (.declares q) U) ∧ (∀ q ∈ mNwA, va_AO q U)
theorem mE.moved {E : mEnv} {s U : State} (hW : s.WarmedH U.vm) (h : mE E s) : mE E U := ⟨va_K.moved hW.alike h.1, fun q hq => (h.2.1 q hq).warmC hW, fun q hq => (h.2.2.1 q hq).warmM hW, fun q hq => (h.2.2.2.1 q hq).warmD hW, fun q hq => (h.2.2.2.2 q hq).moved hW.alike⟩
theorem mE.same {E : mEnv} {s U : State} (hv : s.vm = U.vm) (h : mE E s) : mE E U := ⟨va_K.moved (by rw [hv]; exact Vm.Alike.refl U.vm) h.1, fun q hq => (h.2.1 q hq).same rfl hv, fun q hq => (h.2.2.1 q hq).same rfl hv, fun q hq => (h.2.2.2.1 q hq).same rfl hv, fun q hq => (h.2.2.2.2 q hq).moved (by rw [hv]; exact Vm.Alike.refl U.vm)⟩
/-- the heap holds the memory, and its cells are of a kind -/
def mOK (D : va_G) (A : Nat → Prop) (M : mMem) (H : Heap) : Prop := ∃ (L : List Nat) (f : Nat → va_E), (∀ (a : Nat) (e : va_E), M a = some e ↔ a ∈ L ∧ f a = e) ∧ va_P D vwCl (va_pl L f) H ∧ va_D A (va_pl L f)
def mA (M : mMem) (sz : Nat) : Nat → Prop := fun q => M q ≠ none ∨ sz ≤ q
theorem m_pl_get {L : List Nat} {f : Nat → va_E} {a : Nat} (h : a ∈ L) : ∃ k : Nat, (va_pl L f)[k]? = some (a, f a) := by
  obtain ⟨k, hk⟩ := va_pl_get (X := []) (f := f) h
  exact ⟨k, by simpa using hk⟩
theorem mOK.at {D : va_G} {A : Nat → Prop} {M : mMem} {H : Heap} (h : mOK D A M H) {a : Nat} {e : va_E} (ha : M a = some e) : ∃ (ws : va_W) (k : Nat), va_P D vwCl ws H ∧ ws[k]? = some (a, e) := by
  obtain ⟨L, f, h1, hP, hD⟩ := h
  obtain ⟨hL, hf⟩ := (h1 a e).mp ha
  obtain ⟨k, hk⟩ := m_pl_get (f := f) hL
  exact ⟨_, k, hP, by rw [hk, hf]⟩
theorem mOK.lt {D : va_G} {A : Nat → Prop} {M : mMem} {H : Heap} (h : mOK D A M H) {a : Nat} {e : va_E} (ha : M a = some e) : a < H.size := by
  obtain ⟨ws, k, hP, hk⟩ := h.at ha
  exact (hP k _ hk).lt
theorem mOK.in {D : va_G} {A : Nat → Prop} {M : mMem} {H : Heap} (h : mOK D A M H) {a : Nat} (ha : M a ≠ none) : A a := by
  obtain ⟨L, f, h1, hP, hD⟩ := h
  cases he : M a with
  | none => exact absurd he ha
  | some e =>
    obtain ⟨hL, hf⟩ := (h1 a e).mp he
    obtain ⟨k, hk⟩ := m_pl_get (f := f) hL
    exact hD.2 k _ hk
theorem mOK.to {D : va_G} {A B : Nat → Prop} {M : mMem} {H : Heap} (h : mOK D A M H) (hB : ∀ q, M q ≠ none → A q → B q) : mOK D B M H := by
  obtain ⟨L, f, h1, hP, hD⟩ := h
  refine ⟨L, f, h1, hP, hD.weaken (fun k q hk hA => hB q.1 ?_ hA)⟩
  have hm : q ∈ va_pl L f := List.mem_of_getElem? hk
  obtain ⟨a, ha, hq⟩ := List.mem_map.mp hm
  subst hq
  show M a ≠ none
  rw [(h1 a (f a)).mpr ⟨ha, rfl⟩]
  exact fun z => by cases z
theorem mOK.free {D : va_G} {A : Nat → Prop} {M : mMem} {H H0 : Heap} {locs : List Loc} (h : mOK D A M H) (hS : va_S A H0 H locs) (hA : ∀ q : Nat, H0.size ≤ q → A q) : ∀ q, mA M H.size q → A q := fun q hq => by
  rcases hq with h1 | h1
  · exact h.in h1
  · exact hA q (Nat.le_trans hS.1 h1)
theorem mOK.self {D : va_G} {A : Nat → Prop} {M : mMem} {H : Heap} (h : mOK D A M H) (sz : Nat) : mOK D (mA M sz) M H := h.to (fun _ hq _ => Or.inl hq)
theorem mOK_set {D : va_G} {A : Nat → Prop} {M : mMem} {H1 : Heap} {L : List Nat} {f : Nat → va_E} {a k : Nat} {e0 e : va_E} (h1 : ∀ (a : Nat) (e : va_E), M a = some e ↔ a ∈ L ∧ f a = e) (ha : M a = some e0) (hD : va_D A (va_pl L f)) (hk : (va_pl L f)[k]? = some (a, e0)) (hP1 : va_P D vwCl ((va_pl L f).set k (a, e)) H1) (hD1 : va_D A ((va_pl L f).set k (a, e))) : mOK D A (mUp M a e) H1 := by
  obtain ⟨hL, hf⟩ := (h1 a e0).mp ha
  have hs : (va_pl L f).set k (a, e) = va_pl L (va_up f a e) := by
    have := va_pl_set (X := []) (A := A) (e := e) (k := k) (f := f) (by simpa using hD) hL (by rw [List.nil_append, hf]; exact hk)
    simpa using this
  rw [hs] at hP1 hD1
  refine ⟨L, va_up f a e, fun q x => ?_, hP1, hD1⟩
  by_cases hq : q = a
  · subst hq
    simp [mUp, va_up, hL]
  · simp [mUp, va_up, hq, h1]
theorem mOK_push {D : va_G} {A : Nat → Prop} {M : mMem} {H1 : Heap} {L : List Nat} {f : Nat → va_E} {q : Nat} {e : va_E} (h1 : ∀ (a : Nat) (e : va_E), M a = some e ↔ a ∈ L ∧ f a = e) (hP1 : va_P D vwCl (va_pl L f ++ [(q, e)]) H1) (hD1 : va_D A (va_pl L f ++ [(q, e)])) : mOK D A (mUp M q e) H1 ∧ M q = none := by
  have hq : q ∉ L := by
    intro h
    obtain ⟨k, hk⟩ := m_pl_get (f := f) h
    have hlt : k < (va_pl L f).length := (List.getElem?_eq_some_iff.mp hk).1
    have hz := hD1.1 k (va_pl L f).length (q, f q) (q, e) (by rw [List.getElem?_append_left hlt]; exact hk) (by simp) rfl
    omega
  rw [va_pl_push hq] at hP1 hD1
  refine ⟨⟨L ++ [q], va_up f q e, fun a x => ?_, hP1, hD1⟩, ?_⟩
  · by_cases ha : a = q
    · subst ha
      simp [mUp, va_up]
    · simp [mUp, va_up, ha, h1]
  · cases h : M q with
    | none => rfl
    | some x => exact absurd ((h1 q x).mp h).1 hq
/-- a contract's start and its ends -/
def mPre (E : mEnv) (M : mMem) (sz : Nat) (av : List Value) : Array Value → State → Prop := va_Pc av (fun U => U.heap.size = sz ∧ mOK E.1 (fun _ => True) M U.heap ∧ mE E U)
def mQi (E : mEnv) (M : mMem) (sz : Nat) (post : Int32 → mMem → Prop) : Array Value → State → Outcome → State → Prop := va_Qi post (fun (u : mMem) (t : State) => mOK E.1 (mA M sz) u t.heap) (mA M sz)
def mQl (E : mEnv) (M : mMem) (sz : Nat) (post : Int64 → mMem → Prop) : Array Value → State → Outcome → State → Prop := va_Ql post (fun (u : mMem) (t : State) => mOK E.1 (mA M sz) u t.heap) (mA M sz)
def mQd (E : mEnv) (M : mMem) (sz : Nat) (post : UInt64 → mMem → Prop) : Array Value → State → Outcome → State → Prop := va_Qd post (fun (u : mMem) (t : State) => mOK E.1 (mA M sz) u t.heap) (mA M sz)
def mQv (E : mEnv) (M : mMem) (sz : Nat) (post : mMem → Prop) : Array Value → State → Outcome → State → Prop := va_Qv post (fun (u : mMem) (t : State) => mOK E.1 (mA M sz) u t.heap) (mA M sz)
def mQq (E : mEnv) (M : mMem) (sz : Nat) (post : Option Nat → mMem → Prop) : Array Value → State → Outcome → State → Prop := va_Qq post (fun (u : mMem) (t : State) => mOK E.1 (mA M sz) u t.heap) (mA M sz)
theorem mPre_blind {E : mEnv} {M : mMem} {sz : Nat} {av : List Value} : FrameBlind (mPre E M sz av) := fun a U g mk q => ⟨q.1, q.2.1, q.2.2.1, q.2.2.2.same (U := U.calling g mk a) rfl⟩
theorem m_preS {E : mEnv} {M : mMem} {s : State} {H : Heap} {A : Nat → Prop} {As : List Value} (hE : mE E s) (hM : mOK E.1 A M H) : PreS s H (mPre E M H.size As) As := ⟨mPre_blind, fun U hU hW => ⟨rfl, by rw [hU], by rw [hU]; exact hM.to (fun _ _ _ => trivial), hE.moved hW⟩⟩
theorem m_preV {E : mEnv} {M : mMem} {s : State} {H : Heap} {A : Nat → Prop} {As : List Value} {b ci : Nat} {fs : List Value} {r : vw_C} (hE : mE E s) (hM : mOK E.1 A M H) (hb : M b = some (.inr (ci, fs))) (hc : vwCl[ci]? = some r) : PreV s H r.1 b (mPre E M H.size (.ref b :: As)) As := by
  obtain ⟨ws, k, hP, hk⟩ := hM.at hb
  exact ⟨mPre_blind, va_recv hE.1 hP hc hk, fun U hU hW => ⟨rfl, by rw [hU], by rw [hU]; exact hM.to (fun _ _ _ => trivial), hE.moved hW⟩⟩
theorem m_met {l : Launch} {y : MethodName} {ws ws' : List Cond} {rm : Room} {Qc : Array Value → State → Outcome → State → Prop} {mc ms : Nat} {cc : ByteArray} {maxL : Nat} {ret : Option FieldType} {E : mEnv} {M : mMem} {sz : Nat} (av : List Value) (hy : plainName y.cls = true) (hw : ws = Cond.code y cc maxL ret :: ws') (hn : (lg_sl av).length ≤ maxL)
    (body : ∀ (p : Program) (e : Env) (s : State) (m : MethodId) (below : List Frame) (meth : Method) (c : Code) (ls : Array Slot) (H : Heap), H = s.heap → p.tables.exec = Jvm.exec → c.code = cc → meth.sig.returnType = ret → (∀ w ∈ ws, w.before av.toArray s = true) → s.vm.findClass y.cls = some m.cls → meth.locks = false → meth.name = y.name → c.maxLocals = maxL → s.heap.size = sz → mE E s → mOK E.1 (mA M sz) M H → va_S (mA M sz) s.heap H [] → (∀ q : Nat, s.heap.size ≤ q → mA M sz q) → lv_has ls maxL (lv_args 0 av) → W p l e rm s m av.toArray below meth c H [] 0 0 (MQ below Qc av.toArray s mc ms (mA M sz)) (F0 m 0 ls [])) :
    Met l y ws rm (mPre E M sz av) Qc mc ms (mA M sz) := by
  refine Met.ofW (cc := cc) (maxL := maxL) (ret := ret) hy hw ?_
  intro p e s m args below meth c s₁ B hml hv
  obtain ⟨rfl, hsz, hM, hE⟩ := hv
  rw [lg_entry_eq]
  exact body p e s m below meth c _ s.heap rfl B.exec B.bytes B.returns (atoms_spec (ws := ws) B.pre) (findClass_of_methodNamed B.named) B.notSynchronized (name_of_methodNamed B.named B.method).1 hml hsz hE (hM.self sz) va_S.rf (fun q h => Or.inr (by omega)) (lv_entry av hn)
section MM
variable {p : Program} {l : Launch} {e : Env} {R : Room} {s : State} {m : MethodId} {args : Array Value} {below : List Frame} {meth : Method} {c : Code} {H : Heap} {locs : List Loc} {cells slots : Nat} {Q : State → Prop}
variable {cc : ByteArray} {pc : Nat} {ls : Array Slot} {rest st0 : List Value} {E : mEnv} {A : Nat → Prop} {a : Nat} {H0 : Heap} {M : mMem} {mc ms : Nat} {a0 : Array Value}
theorem m_get (hx : p.tables.exec = Jvm.exec) (hb : c.code = cc) {own ref C : String} {T : u_T} {N ci index : Nat} {Ts : List Cond} (hts : ∀ w ∈ Ts, w.before args s = true) (hin : ∀ w ∈ u_ws C T N, w ∈ Ts) (hown : s.vm.findClass own = some m.cls) (hE : mE E s) (hM : mOK E.1 A M H) {fs : List Value} (ha : M a = some (.inr (ci, fs))) (hc : vwCl[ci]? = some (C, T, N)) (k : Nat) (hk : k < N) (hlink : (Cond.fieldLink own index ref (T k).2.1 (T k).2.2.1).before args s = true) (hsame : ∀ x, s.fieldFound? (T k).1 (T k).2.1 (T k).2.2.1 = some x → s.fieldFound? ref (T k).2.1 (T k).2.2.1 = some x) {v : Value} (hv : fs[k]? = some v) (hdg : decode cc pc = .ok (.getfield index, 3))
    (kk : W p l e R s m args below meth c H locs cells slots Q (F0 m (pc + 3) ls (v :: rest))) : W p l e R s m args below meth c H locs cells slots Q (F0 m pc ls (.ref a :: rest)) := by
  obtain ⟨ws, q0, hP, hq⟩ := hM.at ha
  exact va_get hx hb hts hin hown hE.1 hP q0 hq hc k hk hlink hsame hv hdg kk
theorem m_put (hx : p.tables.exec = Jvm.exec) (hb : c.code = cc) {own ref C : String} {T : u_T} {N ci index : Nat} {Ts : List Cond} (hts : ∀ w ∈ Ts, w.before args s = true) (hin : ∀ w ∈ u_ws C T N, w ∈ Ts) (ty0 : Nat → FieldType) (hty : ∀ k, k < N → parseFieldDescriptor (T k).2.2.1 = some (ty0 k)) (hnm : ∀ a, a < N → ∀ b, b < N → a ≠ b → (T a).2.1 ≠ (T b).2.1) (hown : s.vm.findClass own = some m.cls) (hE : mE E s) (hM : mOK E.1 A M H) (hS : va_S A H0 H locs) {fs : List Value} (ha : M a = some (.inr (ci, fs))) (hc : vwCl[ci]? = some (C, T, N)) (k : Nat) (hk : k < N) (hlink : (Cond.fieldLink own index ref (T k).2.1 (T k).2.2.1).before args s = true) (hsame : ∀ x, s.fieldFound? (T k).1 (T k).2.1 (T k).2.2.1 = some x → s.fieldFound? ref (T k).2.1 (T k).2.2.1 = some x) (hfin : (T k).2.2.2 = false) {ty : FieldType} {v : Value} (hd : parseFieldDescriptor (T k).2.2.1 = some ty) (hn : narrow ty v = v) (hfit : fits ty v = true) (hl : k < fs.length)
    (hdg : decode cc pc = .ok (.putfield index, 3)) (kk : ∀ (H1 : Heap) (locs1 : List Loc), mOK E.1 A (mUp M a (.inr (ci, fs.set k v))) H1 → va_S A H0 H1 locs1 → W p l e R s m args below meth c H1 locs1 cells slots Q (F0 m (pc + 3) ls rest)) : W p l e R s m args below meth c H locs cells slots Q (F0 m pc ls (v :: .ref a :: rest)) := by
  obtain ⟨L, f, h1, hP, hD⟩ := hM
  obtain ⟨q0, hq⟩ := m_pl_get (f := f) ((h1 a _).mp ha).1
  rw [((h1 a _).mp ha).2] at hq
  exact va_put hx hb hts hin ty0 hty hnm hown hE.1 hP hD hS q0 hq hc k hk hlink hsame hfin hd hn hfit hl hdg (fun H1 locs1 hP1 hD1 hS1 => kk H1 locs1 (mOK_set h1 ha hD hq hP1 hD1) hS1)
theorem m_putF (hx : p.tables.exec = Jvm.exec) (hb : c.code = cc) {own ref C : String} {T : u_T} {N ci index : Nat} {Ts : List Cond} (hts : ∀ w ∈ Ts, w.before args s = true) (hin : ∀ w ∈ u_ws C T N, w ∈ Ts) (ty0 : Nat → FieldType) (hty : ∀ k, k < N → parseFieldDescriptor (T k).2.2.1 = some (ty0 k)) (hnm : ∀ a, a < N → ∀ b, b < N → a ≠ b → (T a).2.1 ≠ (T b).2.1) (hown : s.vm.findClass own = some m.cls) (hE : mE E s) (hM : mOK E.1 A M H) (hS : va_S A H0 H locs) {fs : List Value} (ha : M a = some (.inr (ci, fs))) (hc : vwCl[ci]? = some (C, T, N)) (k : Nat) (hk : k < N) (hlink : (Cond.fieldLink own index ref (T k).2.1 (T k).2.2.1).before args s = true) (hsame : ∀ x, s.fieldFound? (T k).1 (T k).2.1 (T k).2.2.1 = some x → s.fieldFound? ref (T k).2.1 (T k).2.2.1 = some x) (hfin : (T k).2.2.2 = true) (hin2 : meth.name = "<init>") (hdecl : (T k).1 = own) {ty : FieldType} {v : Value} (hd : parseFieldDescriptor (T k).2.2.1 = some ty) (hn : narrow ty v = v) (hfit : fits ty v = true) (hl : k < fs.length)
    (hdg : decode cc pc = .ok (.putfield index, 3)) (kk : ∀ (H1 : Heap) (locs1 : List Loc), mOK E.1 A (mUp M a (.inr (ci, fs.set k v))) H1 → va_S A H0 H1 locs1 → W p l e R s m args below meth c H1 locs1 cells slots Q (F0 m (pc + 3) ls rest)) : W p l e R s m args below meth c H locs cells slots Q (F0 m pc ls (v :: .ref a :: rest)) := by
  obtain ⟨L, f, h1, hP, hD⟩ := hM
  obtain ⟨q0, hq⟩ := m_pl_get (f := f) ((h1 a _).mp ha).1
  rw [((h1 a _).mp ha).2] at hq
  exact va_putF hx hb hts hin ty0 hty hnm hown hE.1 hP hD hS q0 hq hc k hk hlink hsame hfin hin2 hdecl hd hn hfit hl hdg (fun H1 locs1 hP1 hD1 hS1 => kk H1 locs1 (mOK_set h1 ha hD hq hP1 hD1) hS1)
theorem m_iald (hx : p.tables.exec = Jvm.exec) (hb : c.code = cc) (hE : mE E s) (hM : mOK E.1 A M H) {n : Nat} {f : Nat → Int32} (ha : M a = some (mI E n f)) {i : Int32} (hin : vp_in i n) (hdg : decode cc pc = .ok (.iaload, 1))
    (kk : W p l e R s m args below meth c H locs cells slots Q (F0 m (pc + 1) ls (.int (f i.toNatClampNeg) :: rest))) : W p l e R s m args below meth c H locs cells slots Q (F0 m pc ls (.int i :: .ref a :: rest)) := by
  obtain ⟨ws, q0, hP, hq⟩ := hM.at ha
  exact va_iald hx hb hE.1 hP q0 0 hq rfl hin hdg kk
theorem m_zald (hx : p.tables.exec = Jvm.exec) (hb : c.code = cc) (hE : mE E s) (hM : mOK E.1 A M H) {n : Nat} {f : Nat → Int32} (ha : M a = some (mZ E n f)) {i : Int32} (hin : vp_in i n) (hdg : decode cc pc = .ok (.baload, 1))
    (kk : W p l e R s m args below meth c H locs cells slots Q (F0 m (pc + 1) ls (.int (f i.toNatClampNeg) :: rest))) : W p l e R s m args below meth c H locs cells slots Q (F0 m pc ls (.int i :: .ref a :: rest)) := by
  obtain ⟨ws, q0, hP, hq⟩ := hM.at ha
  exact va_zald hx hb hE.1 hP q0 3 hq rfl hin hdg kk
theorem m_lald (hx : p.tables.exec = Jvm.exec) (hb : c.code = cc) (hE : mE E s) (hM : mOK E.1 A M H) {n : Nat} {f : Nat → Int64} (ha : M a = some (mJ E n f)) {i : Int32} (hin : vp_in i n) (hdg : decode cc pc = .ok (.laload, 1))
    (kk : W p l e R s m args below meth c H locs cells slots Q (F0 m (pc + 1) ls (.long (f i.toNatClampNeg) :: rest))) : W p l e R s m args below meth c H locs cells slots Q (F0 m pc ls (.int i :: .ref a :: rest)) := by
  obtain ⟨ws, q0, hP, hq⟩ := hM.at ha
  exact va_lald hx hb hE.1 hP q0 1 hq rfl hin hdg kk
theorem m_dald (hx : p.tables.exec = Jvm.exec) (hb : c.code = cc) (hE : mE E s) (hM : mOK E.1 A M H) {n : Nat} {f : Nat → UInt64} (ha : M a = some (mDb E n f)) {i : Int32} (hin : vp_in i n) (hdg : decode cc pc = .ok (.daload, 1))
    (kk : W p l e R s m args below meth c H locs cells slots Q (F0 m (pc + 1) ls (.double (f i.toNatClampNeg) :: rest))) : W p l e R s m args below meth c H locs cells slots Q (F0 m pc ls (.int i :: .ref a :: rest)) := by
  obtain ⟨ws, q0, hP, hq⟩ := hM.at ha
  exact va_dald hx hb hE.1 hP q0 2 hq rfl hin hdg kk
/-- of an array of references; t: its place among the array classes -/
theorem m_qald (hx : p.tables.exec = Jvm.exec) (hb : c.code = cc) (hE : mE E s) (hM : mOK E.1 A M H) (t : Nat) {C : String} {n : Nat} {f : Nat → Option Nat} (ha : M a = some (mQ E t n f)) (ht : (mTys E)[t]? = some (E.2 t, .object C)) {i : Int32} (hin : vp_in i n) {r : Option Nat} (hr : f i.toNatClampNeg = r) (hdg : decode cc pc = .ok (.aaload, 1))
    (kk : W p l e R s m args below meth c H locs cells slots Q (F0 m (pc + 1) ls (va_rf r :: rest))) : W p l e R s m args below meth c H locs cells slots Q (F0 m pc ls (.int i :: .ref a :: rest)) := by
  obtain ⟨ws, q0, hP, hq⟩ := hM.at ha
  subst hr
  exact va_aldq hx hb hE.1 hP q0 t hq ht hin hdg kk
theorem m_alenD (hx : p.tables.exec = Jvm.exec) (hb : c.code = cc) (hE : mE E s) (hM : mOK E.1 A M H) {n : Nat} {f : Nat → UInt64} (ha : M a = some (mDb E n f)) (hdg : decode cc pc = .ok (.arraylength, 1))
    (kk : W p l e R s m args below meth c H locs cells slots Q (F0 m (pc + 1) ls (.int (nI n) :: rest))) : W p l e R s m args below meth c H locs cells slots Q (F0 m pc ls (.ref a :: rest)) := by
  obtain ⟨ws, q0, hP, hq⟩ := hM.at ha
  exact va_alen hx hb hE.1 hP q0 2 hq rfl rfl hdg kk
theorem m_iast (hx : p.tables.exec = Jvm.exec) (hb : c.code = cc) (hE : mE E s) (hM : mOK E.1 A M H) (hS : va_S A H0 H locs) {n : Nat} {f : Nat → Int32} (ha : M a = some (mI E n f)) {i x : Int32} (hin : vp_in i n) (hdg : decode cc pc = .ok (.iastore, 1))
    (kk : ∀ (H1 : Heap) (locs1 : List Loc), mOK E.1 A (mUp M a (mI E n (upd f i.toNatClampNeg x))) H1 → va_S A H0 H1 locs1 → W p l e R s m args below meth c H1 locs1 cells slots Q (F0 m (pc + 1) ls rest)) : W p l e R s m args below meth c H locs cells slots Q (F0 m pc ls (.int x :: .int i :: .ref a :: rest)) := by
  obtain ⟨L, f', h1, hP, hD⟩ := hM
  obtain ⟨q0, hq⟩ := m_pl_get (f := f') ((h1 a _).mp ha).1
  rw [((h1 a _).mp ha).2] at hq
  exact va_iast hx hb hE.1 hP hD hS q0 0 hq rfl hin hdg (fun H1 locs1 hP1 hD1 hS1 => kk H1 locs1 (mOK_set h1 ha hD hq hP1 hD1) hS1)
theorem m_zast (hx : p.tables.exec = Jvm.exec) (hb : c.code = cc) (hE : mE E s) (hM : mOK E.1 A M H) (hS : va_S A H0 H locs) {n : Nat} {f : Nat → Int32} (ha : M a = some (mZ E n f)) {i x : Int32} (hin : vp_in i n) (hdg : decode cc pc = .ok (.bastore, 1))
    (kk : ∀ (H1 : Heap) (locs1 : List Loc), mOK E.1 A (mUp M a (mZ E n (upd f i.toNatClampNeg (vp_nar .boolean x)))) H1 → va_S A H0 H1 locs1 → W p l e R s m args below meth c H1 locs1 cells slots Q (F0 m (pc + 1) ls rest)) : W p l e R s m args below meth c H locs cells slots Q (F0 m pc ls (.int x :: .int i :: .ref a :: rest)) := by
  obtain ⟨L, f', h1, hP, hD⟩ := hM
  obtain ⟨q0, hq⟩ := m_pl_get (f := f') ((h1 a _).mp ha).1
  rw [((h1 a _).mp ha).2] at hq
  exact va_zast hx hb hE.1 hP hD hS q0 3 hq rfl hin hdg (fun H1 locs1 hP1 hD1 hS1 => kk H1 locs1 (mOK_set h1 ha hD hq hP1 hD1) hS1)
theorem m_last (hx : p.tables.exec = Jvm.exec) (hb : c.code = cc) (hE : mE E s) (hM : mOK E.1 A M H) (hS : va_S A H0 H locs) {n : Nat} {f : Nat → Int64} (ha : M a = some (mJ E n f)) {i : Int32} {x : Int64} (hin : vp_in i n) (hdg : decode cc pc = .ok (.lastore, 1))
    (kk : ∀ (H1 : Heap) (locs1 : List Loc), mOK E.1 A (mUp M a (mJ E n (vp_updL f i.toNatClampNeg x))) H1 → va_S A H0 H1 locs1 → W p l e R s m args below meth c H1 locs1 cells slots Q (F0 m (pc + 1) ls rest)) : W p l e R s m args below meth c H locs cells slots Q (F0 m pc ls (.long x :: .int i :: .ref a :: rest)) := by
  obtain ⟨L, f', h1, hP, hD⟩ := hM
  obtain ⟨q0, hq⟩ := m_pl_get (f := f') ((h1 a _).mp ha).1
  rw [((h1 a _).mp ha).2] at hq
  exact va_last hx hb hE.1 hP hD hS q0 1 hq rfl hin hdg (fun H1 locs1 hP1 hD1 hS1 => kk H1 locs1 (mOK_set h1 ha hD hq hP1 hD1) hS1)
end MM
