theorem m_K1 {E : mEnv} {s : State} {ty : FieldType} {cA : ClassId} {t : Nat} {cB : ClassId} (hK : va_K E.1 vwCl (mTys E ++ [(cA, ty)]) s) (ht : (mTys E)[t]? = some (cB, ty)) (hlt : t < (mTys E).length) : cA = cB := by
  have h1 := (hK.2 t (cB, ty) (by rw [List.getElem?_append_left hlt]; exact ht)).2
  have h2 := (hK.2 (mTys E).length (cA, ty) (by simp)).2
  cases ty with
  | object C =>
    obtain ⟨_, _, _, _, _, g1⟩ := h1
    obtain ⟨_, _, _, _, _, g2⟩ := h2
    exact Option.some.inj (g2.symm.trans g1)
  | _ => exact Option.some.inj (Eq.trans (Eq.symm h2) h1)
section MN
variable {p : Program} {l : Launch} {e : Env} {R : Room} {s : State} {m : MethodId} {args : Array Value} {below : List Frame} {meth : Method} {c : Code} {H : Heap} {locs : List Loc} {cells slots : Nat} {Q : State → Prop}
variable {cc : ByteArray} {pc : Nat} {ls : Array Slot} {rest st0 : List Value} {E : mEnv} {A : Nat → Prop} {a : Nat} {H0 : Heap} {M : mMem} {mc ms : Nat} {a0 : Array Value}
theorem m_dast (hx : p.tables.exec = Jvm.exec) (hb : c.code = cc) (hE : mE E s) (hM : mOK E.1 A M H) (hS : va_S A H0 H locs) {n : Nat} {f : Nat → UInt64} (ha : M a = some (mDb E n f)) {i : Int32} {x : UInt64} (hin : vp_in i n) (hdg : decode cc pc = .ok (.dastore, 1))
    (kk : ∀ (H1 : Heap) (locs1 : List Loc), mOK E.1 A (mUp M a (mDb E n (vf_upd f i.toNatClampNeg x))) H1 → va_S A H0 H1 locs1 → W p l e R s m args below meth c H1 locs1 cells slots Q (F0 m (pc + 1) ls rest)) : W p l e R s m args below meth c H locs cells slots Q (F0 m pc ls (.double x :: .int i :: .ref a :: rest)) := by
  obtain ⟨L, f', h1, hP, hD⟩ := hM
  obtain ⟨q0, hq⟩ := m_pl_get (f := f') ((h1 a _).mp ha).1
  rw [((h1 a _).mp ha).2] at hq
  exact va_dast hx hb hE.1 hP hD hS q0 2 hq rfl hin hdg (fun H1 locs1 hP1 hD1 hS1 => kk H1 locs1 (mOK_set h1 ha hD hq hP1 hD1) hS1)
/-- a reference stored into an array of its own class -/
theorem m_qast (hx : p.tables.exec = Jvm.exec) (hb : c.code = cc) (hE : mE E s) (hM : mOK E.1 A M H) (hS : va_S A H0 H locs) (t : Nat) {ci n v : Nat} {r : vw_C} {vs : List Value} {f : Nat → Option Nat} (ha : M a = some (mQ E t n f)) (ht : (mTys E)[t]? = some (E.2 t, .object r.1)) (hv : M v = some (.inr (ci, vs))) (hc : vwCl[ci]? = some r) {i : Int32} (hin : vp_in i n) (hdg : decode cc pc = .ok (.aastore, 1))
    (kk : ∀ (H1 : Heap) (locs1 : List Loc), mOK E.1 A (mUp M a (mQ E t n (va_up f i.toNatClampNeg (some v)))) H1 → va_S A H0 H1 locs1 → W p l e R s m args below meth c H1 locs1 cells slots Q (F0 m (pc + 1) ls rest)) : W p l e R s m args below meth c H locs cells slots Q (F0 m pc ls (.ref v :: .int i :: .ref a :: rest)) := by
  obtain ⟨L, f', h1, hP, hD⟩ := hM
  obtain ⟨q0, hq⟩ := m_pl_get (f := f') ((h1 a _).mp ha).1
  rw [((h1 a _).mp ha).2] at hq
  obtain ⟨q1, hq1⟩ := m_pl_get (f := f') ((h1 v _).mp hv).1
  rw [((h1 v _).mp hv).2] at hq1
  exact va_astq hx hb hE.1 hP hD hS q0 t q1 ci hq ht hq1 hc hin hdg (fun H1 locs1 hP1 hD1 hS1 => kk H1 locs1 (mOK_set h1 ha hD hq hP1 hD1) hS1)
/-- a reference stored into an array of a class that its own can be cast to -/
theorem m_qastO (hx : p.tables.exec = Jvm.exec) (hb : c.code = cc) (hE : mE E s) (hM : mOK E.1 A M H) (hS : va_S A H0 H locs) (t : Nat) {B : String} {ci n v : Nat} {r : vw_C} {vs : List Value} {f : Nat → Option Nat} (ha : M a = some (mQ E t n f)) (ht : (mTys E)[t]? = some (E.2 t, .object B)) (hca : va_Nw (.castable r.1 B) s) (hv : M v = some (.inr (ci, vs))) (hc : vwCl[ci]? = some r) {i : Int32} (hin : vp_in i n) (hdg : decode cc pc = .ok (.aastore, 1))
    (kk : ∀ (H1 : Heap) (locs1 : List Loc), mOK E.1 A (mUp M a (mQ E t n (va_up f i.toNatClampNeg (some v)))) H1 → va_S A H0 H1 locs1 → W p l e R s m args below meth c H1 locs1 cells slots Q (F0 m (pc + 1) ls rest)) : W p l e R s m args below meth c H locs cells slots Q (F0 m pc ls (.ref v :: .int i :: .ref a :: rest)) := by
  obtain ⟨L, f', h1, hP, hD⟩ := hM
  obtain ⟨q0, hq⟩ := m_pl_get (f := f') ((h1 a _).mp ha).1
  rw [((h1 a _).mp ha).2] at hq
  obtain ⟨q1, hq1⟩ := m_pl_get (f := f') ((h1 v _).mp hv).1
  rw [((h1 v _).mp hv).2] at hq1
  exact va_astqO hx hb hE.1 hP hD hS q0 t q1 ci hq ht hca hq1 hc hin hdg (fun H1 locs1 hP1 hD1 hS1 => kk H1 locs1 (mOK_set h1 ha hD hq hP1 hD1) hS1)
theorem m_qastN (hx : p.tables.exec = Jvm.exec) (hb : c.code = cc) (hE : mE E s) (hM : mOK E.1 A M H) (hS : va_S A H0 H locs) (t : Nat) {B : String} {n : Nat} {f : Nat → Option Nat} (ha : M a = some (mQ E t n f)) (ht : (mTys E)[t]? = some (E.2 t, .object B)) {i : Int32} (hin : vp_in i n) (hdg : decode cc pc = .ok (.aastore, 1))
    (kk : ∀ (H1 : Heap) (locs1 : List Loc), mOK E.1 A (mUp M a (mQ E t n (va_up f i.toNatClampNeg none))) H1 → va_S A H0 H1 locs1 → W p l e R s m args below meth c H1 locs1 cells slots Q (F0 m (pc + 1) ls rest)) : W p l e R s m args below meth c H locs cells slots Q (F0 m pc ls (.null :: .int i :: .ref a :: rest)) := by
  obtain ⟨L, f', h1, hP, hD⟩ := hM
  obtain ⟨q0, hq⟩ := m_pl_get (f := f') ((h1 a _).mp ha).1
  rw [((h1 a _).mp ha).2] at hq
  exact va_astqN hx hb hE.1 hP hD hS q0 t hq ht hin hdg (fun H1 locs1 hP1 hD1 hS1 => kk H1 locs1 (mOK_set h1 ha hD hq hP1 hD1) hS1)
theorem m_new (hx : p.tables.exec = Jvm.exec) (hb : c.code = cc) {own C : String} {T : u_T} {N ci index : Nat} {Ts : List Cond} (hts : ∀ w ∈ Ts, w.before args s = true) (hin : ∀ w ∈ u_ws C T N, w ∈ Ts) (ty : Nat → FieldType) (hty : ∀ k, k < N → parseFieldDescriptor (T k).2.2.1 = some (ty k)) (hown : s.vm.findClass own = some m.cls) (hcl : (Cond.classLink own index C).before args s = true) (hinst : (Cond.instantiable C N).before args s = true) (hini : (Cond.initialized C).before args s = true)
    (hE : mE E s) (hM : mOK E.1 A M H) (hS : va_S A H0 H locs) (hA : ∀ q : Nat, H0.size ≤ q → A q) (hc : vwCl[ci]? = some (C, T, N)) {fs : List Value} (hfs : ∀ j, j < N → defaultValue (ty j) = vp_V fs j) (hcells : cells + 1 ≤ R.cells) (hslots : slots + N ≤ R.slots) (hdg : decode cc pc = .ok (.new index, 3))
    (kk : ∀ (q : Nat) (H1 : Heap), M q = none → mOK E.1 A (mUp M q (.inr (ci, fs))) H1 → va_S A H0 H1 locs → W p l e R s m args below meth c H1 locs (cells + 1) (slots + N) Q (F0 m (pc + 3) ls (.ref q :: rest))) : W p l e R s m args below meth c H locs cells slots Q (F0 m pc ls rest) := by
  obtain ⟨L, f', h1, hP, hD⟩ := hM
  exact va_new hx hb hts hin ty hty hown hcl hinst hini hE.1 hP hD hS hA hc hfs hcells hslots hdg (fun q H1 hP1 hD1 hS1 => kk q H1 (mOK_push h1 hP1 hD1).2 (mOK_push h1 hP1 hD1).1 hS1)
/-- a new array of numbers; t: its place among the array classes -/
theorem m_newa (hx : p.tables.exec = Jvm.exec) (hb : c.code = cc) {atype : ArrayType} (harr : (Cond.arrayClass (newarray.typeOf atype)).before args s = true) {ty : FieldType} (hty : newarray.typeOf atype = ty) (hE : mE E s) (hM : mOK E.1 A M H) (hS : va_S A H0 H locs) (hA : ∀ q : Nat, H0.size ≤ q → A q) (t : Nat) (htl : t < (mTys E).length) (ht : (mTys E)[t]? = some (E.2 t, ty))
    {n : Int32} {N' : Nat} {x0 : vp_A} (ha : ∀ cA : ClassId, vp_cell cA x0 = arrV cA N' (fun _ => defaultValue ty)) (hn : ¬ n < 0) (hN : n.toNatClampNeg = N') (hbytes : N' * componentBytes ty ≤ 536870912) (hcells : cells + 1 ≤ R.cells) (hslots : slots + N' ≤ R.slots) (hdg : decode cc pc = .ok (.newarray atype, 2))
    (kk : ∀ (q : Nat) (H1 : Heap), M q = none → mOK E.1 A (mUp M q (.inl (E.2 t, x0))) H1 → va_S A H0 H1 locs → W p l e R s m args below meth c H1 locs (cells + 1) (slots + N') Q (F0 m (pc + 2) ls (.ref q :: rest))) : W p l e R s m args below meth c H locs cells slots Q (F0 m pc ls (.int n :: rest)) := by
  obtain ⟨L, f', h1, hP, hD⟩ := hM
  refine va_newa hx hb harr hty hE.1 hP hD hS hA ha hn hN hbytes hcells hslots hdg (fun q cA H1 hK1 hP1 hD1 hS1 => ?_)
  have hc := m_K1 hK1 ht htl
  subst hc
  exact kk q H1 (mOK_push h1 hP1 hD1).2 (mOK_push h1 hP1 hD1).1 hS1
theorem m_newq (hx : p.tables.exec = Jvm.exec) (hb : c.code = cc) {own C : String} {index : Nat} (hown : s.vm.findClass own = some m.cls) (hclink : (Cond.classLink own index C).before args s = true) (hE : mE E s) (hC : C ∈ mNwA) (hM : mOK E.1 A M H) (hS : va_S A H0 H locs) (hA : ∀ q : Nat, H0.size ≤ q → A q) (t : Nat) (htl : t < (mTys E).length) (ht : (mTys E)[t]? = some (E.2 t, .object C))
    {n : Int32} {N' : Nat} (hn : ¬ n < 0) (hN : n.toNatClampNeg = N') (hbytes : N' * 4 ≤ 536870912) (hcells : cells + 1 ≤ R.cells) (hslots : slots + N' ≤ R.slots) (hdg : decode cc pc = .ok (.anewarray index, 3))
    (kk : ∀ (q : Nat) (H1 : Heap), M q = none → mOK E.1 A (mUp M q (mQ E t N' (fun _ => none))) H1 → va_S A H0 H1 locs → W p l e R s m args below meth c H1 locs (cells + 1) (slots + N') Q (F0 m (pc + 3) ls (.ref q :: rest))) : W p l e R s m args below meth c H locs cells slots Q (F0 m pc ls (.int n :: rest)) := by
  obtain ⟨L, f', h1, hP, hD⟩ := hM
  refine va_newq hx hb hown hclink (hE.2.2.2.2 C hC) hE.1 hP hD hS hA hn hN hbytes hcells hslots hdg (fun q cA H1 hK1 hP1 hD1 hS1 => ?_)
  have hc := m_K1 hK1 ht htl
  subst hc
  exact kk q H1 (mOK_push h1 hP1 hD1).2 (mOK_push h1 hP1 hD1).1 hS1
theorem m_cloneD (hx : p.tables.exec = Jvm.exec) (hb : c.code = cc) (hml : c.maxLocals = ls.size) {own : String} {index : Nat} (hown : s.vm.findClass own = some m.cls)
    (hlink : (Cond.methodLink own index ⟨"[D", "clone", "()Ljava/lang/Object;"⟩).before args s = true) (hsame : (Cond.sameMethod "[D" "java/lang/Object" "clone" "()Ljava/lang/Object;").before args s = true)
    (hnat : (Cond.native ⟨"java/lang/Object", "clone", "()Ljava/lang/Object;"⟩).before args s = true) (hinst : (Cond.instanceMethod ⟨"java/lang/Object", "clone", "()Ljava/lang/Object;"⟩).before args s = true)
    (hsel : (Cond.selects "[D" ⟨"[D", "clone", "()Ljava/lang/Object;"⟩ ⟨"java/lang/Object", "clone", "()Ljava/lang/Object;"⟩).before args s = true)
    (hE : mE E s) (hM : mOK E.1 A M H) (hS : va_S A H0 H locs) (hA : ∀ q : Nat, H0.size ≤ q → A q) {n : Nat} {f : Nat → UInt64} (ha : M a = some (mDb E n f))
    (hframes : 1 ≤ R.frames) (hlocals : (rest.map fun v => v.category).sum + 14 ≤ R.locals) (hcells : cells + 1 ≤ R.cells) (hslots : slots + n ≤ R.slots) (hdg : decode cc pc = .ok (.invokevirtual index, 3))
    (kk : ∀ (q : Nat) (H1 : Heap), M q = none → mOK E.1 A (mUp M q (mDb E n f)) H1 → va_S A H0 H1 locs → W p l e R s m args below meth c H1 locs (cells + 1) (slots + n) Q (F0 m (pc + 3) ls (.ref q :: rest))) : W p l e R s m args below meth c H locs cells slots Q (F0 m pc ls (.ref a :: rest)) := by
  obtain ⟨L, f', h1, hP, hD⟩ := hM
  obtain ⟨q0, hq⟩ := m_pl_get (f := f') ((h1 a _).mp ha).1
  rw [((h1 a _).mp ha).2] at hq
  refine va_clone (ad := "[D") hx hb hml hown hlink hsame hnat hinst hsel (hE.2.1 ("[D", "java/lang/Cloneable") (by decide)) hE.1 hP hD hS hA q0 2 hq rfl (va_nm_double (hE.1.2 2 (E.2 2, .double) rfl).2) (fun i v h => va_fit (ty := .double) (F := fun j => .double (f j)) (fun _ _ => rfl) i v h) hframes hlocals hcells hslots hdg (fun q H1 hK1 hP1 hD1 hS1 => kk q H1 (mOK_push h1 hP1 hD1).2 (mOK_push h1 hP1 hD1).1 hS1)
theorem m_castD (hx : p.tables.exec = Jvm.exec) (hb : c.code = cc) {own : String} {index : Nat} (hown : s.vm.findClass own = some m.cls) (hlink : (Cond.classLink own index "[D").before args s = true) (hE : mE E s) (hM : mOK E.1 A M H) {n : Nat} {f : Nat → UInt64} (ha : M a = some (mDb E n f)) (hdg : decode cc pc = .ok (.checkcast index, 3))
    (kk : W p l e R s m args below meth c H locs cells slots Q (F0 m (pc + 3) ls (.ref a :: rest))) : W p l e R s m args below meth c H locs cells slots Q (F0 m pc ls (.ref a :: rest)) := by
  obtain ⟨ws, q0, hP, hq⟩ := hM.at ha
  exact va_castA hx hb hown hlink hP q0 hq (va_nm_double (hE.1.2 2 (E.2 2, .double) rfl).2) hdg kk
theorem m_copyD (hx : p.tables.exec = Jvm.exec) (hb : c.code = cc) (hml : c.maxLocals = ls.size) {own : String} {index : Nat} (hown : s.vm.findClass own = some m.cls) (hlink : (Cond.methodLink own index arraycopyName).before args s = true) (hnat : (Cond.native arraycopyName).before args s = true) (hstat : (Cond.static arraycopyName).before args s = true) (hini : (Cond.initialized "java/lang/System").before args s = true)
    (hE : mE E s) (hM : mOK E.1 A M H) (hS : va_S A H0 H locs) {b n0 n1 : Nat} {f g : Nat → UInt64} (hb0 : M b = some (mDb E n0 f)) (ha : M a = some (mDb E n1 g))
    {sp dp n : Int32} (h1 : ¬ sp < 0) (h2 : ¬ dp < 0) (h3 : ¬ n < 0) (h4 : sp.toNatClampNeg + n.toNatClampNeg ≤ n0) (h5 : dp.toNatClampNeg + n.toNatClampNeg ≤ n1)
    (hframes : 1 ≤ R.frames) (hlocals : (rest.map fun v => v.category).sum + (nativeFrameWords "java/lang/System" "arraycopy" 5 + 11) ≤ R.locals) (hdg : decode cc pc = .ok (.invokestatic index, 3))
    (kk : ∀ (H1 : Heap) (locs1 : List Loc), mOK E.1 A (mUp M a (mDb E n1 (va_cpy f g sp.toNatClampNeg dp.toNatClampNeg n.toNatClampNeg))) H1 → va_S A H0 H1 locs1 → W p l e R s m args below meth c H1 locs1 cells slots Q (F0 m (pc + 3) ls rest)) : W p l e R s m args below meth c H locs cells slots Q (F0 m pc ls (.int n :: .int dp :: .ref a :: .int sp :: .ref b :: rest)) := by
  obtain ⟨L, f', k1, hP, hD⟩ := hM
  obtain ⟨q0, hq⟩ := m_pl_get (f := f') ((k1 b _).mp hb0).1
  rw [((k1 b _).mp hb0).2] at hq
  obtain ⟨q1, hq1⟩ := m_pl_get (f := f') ((k1 a _).mp ha).1
  rw [((k1 a _).mp ha).2] at hq1
  exact va_copyd hx hb hml hown hlink hnat hstat hini hE.1 hP hD hS q0 q1 2 2 hq hq1 rfl rfl rfl h1 h2 h3 h4 h5 (fun _ _ => rfl) hframes hlocals hdg (fun H1 locs1 hP1 hD1 hS1 => kk H1 locs1 (mOK_set k1 ha hD hq1 hP1 hD1) hS1)
/-- behind a call -/
theorem m_calli {post : Int32 → mMem → Prop} (hr : va_Run p l e R s m args below meth c H locs cells slots mc ms (F0 m pc ls st0) rest (mQi E M H.size post a0) (mA M H.size)) (hM : mOK E.1 A M H) (hS : va_S A H0 H locs) (hA : ∀ q : Nat, H0.size ≤ q → A q)
    (kk : ∀ (r : Int32) (u : mMem) (H1 : Heap) (locs1 : List Loc), post r u → mOK E.1 A u H1 → va_S A H0 H1 locs1 → W p l e R s m args below meth c H1 locs1 (cells + mc) (slots + ms) Q (F0 m (pc + 3) ls (.int r :: rest))) : W p l e R s m args below meth c H locs cells slots Q (F0 m pc ls st0) :=
  va_calli hr hS (fun q _ h => hM.free hS hA q h) (hM.free hS hA) (fun r u t H1 locs1 ht _ hw hB _ _ hS1 => kk r u H1 locs1 hw (by rw [← ht]; exact hB.to (fun q _ h => hM.free hS hA q h)) hS1)
theorem m_calll {post : Int64 → mMem → Prop} (hr : va_Run p l e R s m args below meth c H locs cells slots mc ms (F0 m pc ls st0) rest (mQl E M H.size post a0) (mA M H.size)) (hM : mOK E.1 A M H) (hS : va_S A H0 H locs) (hA : ∀ q : Nat, H0.size ≤ q → A q)
    (kk : ∀ (r : Int64) (u : mMem) (H1 : Heap) (locs1 : List Loc), post r u → mOK E.1 A u H1 → va_S A H0 H1 locs1 → W p l e R s m args below meth c H1 locs1 (cells + mc) (slots + ms) Q (F0 m (pc + 3) ls (.long r :: rest))) : W p l e R s m args below meth c H locs cells slots Q (F0 m pc ls st0) :=
  va_calll hr hS (fun q _ h => hM.free hS hA q h) (hM.free hS hA) (fun r u t H1 locs1 ht _ hw hB _ _ hS1 => kk r u H1 locs1 hw (by rw [← ht]; exact hB.to (fun q _ h => hM.free hS hA q h)) hS1)
theorem m_calld {post : UInt64 → mMem → Prop} (hr : va_Run p l e R s m args below meth c H locs cells slots mc ms (F0 m pc ls st0) rest (mQd E M H.size post a0) (mA M H.size)) (hM : mOK E.1 A M H) (hS : va_S A H0 H locs) (hA : ∀ q : Nat, H0.size ≤ q → A q)
    (kk : ∀ (r : UInt64) (u : mMem) (H1 : Heap) (locs1 : List Loc), post r u → mOK E.1 A u H1 → va_S A H0 H1 locs1 → W p l e R s m args below meth c H1 locs1 (cells + mc) (slots + ms) Q (F0 m (pc + 3) ls (.double r :: rest))) : W p l e R s m args below meth c H locs cells slots Q (F0 m pc ls st0) :=
  va_calld hr hS (fun q _ h => hM.free hS hA q h) (hM.free hS hA) (fun r u t H1 locs1 ht _ hw hB _ _ hS1 => kk r u H1 locs1 hw (by rw [← ht]; exact hB.to (fun q _ h => hM.free hS hA q h)) hS1)
theorem m_callv {post : mMem → Prop} (hr : va_Run p l e R s m args below meth c H locs cells slots mc ms (F0 m pc ls st0) rest (mQv E M H.size post a0) (mA M H.size)) (hM : mOK E.1 A M H) (hS : va_S A H0 H locs) (hA : ∀ q : Nat, H0.size ≤ q → A q)
    (kk : ∀ (u : mMem) (H1 : Heap) (locs1 : List Loc), post u → mOK E.1 A u H1 → va_S A H0 H1 locs1 → W p l e R s m args below meth c H1 locs1 (cells + mc) (slots + ms) Q (F0 m (pc + 3) ls rest)) : W p l e R s m args below meth c H locs cells slots Q (F0 m pc ls st0) :=
  va_callv hr hS (fun q _ h => hM.free hS hA q h) (hM.free hS hA) (fun u t H1 locs1 ht _ hw hB _ _ hS1 => kk u H1 locs1 hw (by rw [← ht]; exact hB.to (fun q _ h => hM.free hS hA q h)) hS1)
theorem m_callq {post : Option Nat → mMem → Prop} (hr : va_Run p l e R s m args below meth c H locs cells slots mc ms (F0 m pc ls st0) rest (mQq E M H.size post a0) (mA M H.size)) (hM : mOK E.1 A M H) (hS : va_S A H0 H locs) (hA : ∀ q : Nat, H0.size ≤ q → A q)
    (kk : ∀ (r : Option Nat) (u : mMem) (H1 : Heap) (locs1 : List Loc), post r u → mOK E.1 A u H1 → va_S A H0 H1 locs1 → W p l e R s m args below meth c H1 locs1 (cells + mc) (slots + ms) Q (F0 m (pc + 3) ls (va_rf r :: rest))) : W p l e R s m args below meth c H locs cells slots Q (F0 m pc ls st0) :=
  va_callq hr hS (fun q _ h => hM.free hS hA q h) (hM.free hS hA) (fun r u t H1 locs1 ht _ hw hB _ _ hS1 => kk r u H1 locs1 hw (by rw [← ht]; exact hB.to (fun q _ h => hM.free hS hA q h)) hS1)
/-- the ends -/
theorem m_iret {M0 : mMem} {sz : Nat} {post : Int32 → mMem → Prop} {v : Int32} (hx : p.tables.exec = Jvm.exec) (hb : c.code = cc) (hr : meth.sig.returnType = some .int) (hlocks : meth.locks = false) (hM : mOK E.1 (mA M0 sz) M H) (hS : va_S (mA M0 sz) s.heap H locs) (h1 : cells ≤ mc) (h2 : slots ≤ ms) (hdg : decode cc pc = .ok (.ireturn, 1)) (hp : post v M) :
    W p l e R s m args below meth c H locs cells slots (MQ below (mQi E M0 sz post) args s mc ms (mA M0 sz)) (F0 m pc ls [.int v]) :=
  W.widen h1 h2 (W.iret hx hb hr (fun t ht _ => ⟨⟨v, M, rfl, hp, by show mOK _ _ _ t.heap; rw [ht]; exact hM⟩, hS.F ht⟩) hS.2.2 hdg hlocks)
theorem m_zret {M0 : mMem} {sz : Nat} {post : Int32 → mMem → Prop} {v : Int32} (hx : p.tables.exec = Jvm.exec) (hb : c.code = cc) (hr : meth.sig.returnType = some .boolean) (hlocks : meth.locks = false) (hM : mOK E.1 (mA M0 sz) M H) (hS : va_S (mA M0 sz) s.heap H locs) (h1 : cells ≤ mc) (h2 : slots ≤ ms) (hdg : decode cc pc = .ok (.ireturn, 1)) (hv : v = 0 ∨ v = 1) (hp : post v M) :
    W p l e R s m args below meth c H locs cells slots (MQ below (mQi E M0 sz post) args s mc ms (mA M0 sz)) (F0 m pc ls [.int v]) :=
  W.widen h1 h2 (W.zret hx hb hr (by rcases hv with rfl | rfl <;> decide) (fun t ht _ => ⟨⟨v, M, rfl, hp, by show mOK _ _ _ t.heap; rw [ht]; exact hM⟩, hS.F ht⟩) hS.2.2 hdg hlocks)
theorem m_lret {M0 : mMem} {sz : Nat} {post : Int64 → mMem → Prop} {v : Int64} (hx : p.tables.exec = Jvm.exec) (hb : c.code = cc) (hr : meth.sig.returnType = some .long) (hlocks : meth.locks = false) (hM : mOK E.1 (mA M0 sz) M H) (hS : va_S (mA M0 sz) s.heap H locs) (h1 : cells ≤ mc) (h2 : slots ≤ ms) (hdg : decode cc pc = .ok (.lreturn, 1)) (hp : post v M) :
    W p l e R s m args below meth c H locs cells slots (MQ below (mQl E M0 sz post) args s mc ms (mA M0 sz)) (F0 m pc ls [.long v]) :=
  W.widen h1 h2 (W.lret hx hb hr (fun t ht _ => ⟨⟨v, M, rfl, hp, by show mOK _ _ _ t.heap; rw [ht]; exact hM⟩, hS.F ht⟩) hS.2.2 hdg hlocks)
theorem m_dret {M0 : mMem} {sz : Nat} {post : UInt64 → mMem → Prop} {v : UInt64} (hx : p.tables.exec = Jvm.exec) (hb : c.code = cc) (hr : meth.sig.returnType = some .double) (hlocks : meth.locks = false) (hM : mOK E.1 (mA M0 sz) M H) (hS : va_S (mA M0 sz) s.heap H locs) (h1 : cells ≤ mc) (h2 : slots ≤ ms) (hdg : decode cc pc = .ok (.dreturn, 1)) (hp : post v M) :
    W p l e R s m args below meth c H locs cells slots (MQ below (mQd E M0 sz post) args s mc ms (mA M0 sz)) (F0 m pc ls [.double v]) :=
  W.widen h1 h2 (W.dret hx hb hr (fun t ht _ => ⟨⟨v, M, rfl, hp, by show mOK _ _ _ t.heap; rw [ht]; exact hM⟩, hS.F ht⟩) hS.2.2 hdg hlocks)
theorem m_vret {M0 : mMem} {sz : Nat} {post : mMem → Prop} (hx : p.tables.exec = Jvm.exec) (hb : c.code = cc) (hr : meth.sig.returnType = none) (hlocks : meth.locks = false) (hM : mOK E.1 (mA M0 sz) M H) (hS : va_S (mA M0 sz) s.heap H locs) (h1 : cells ≤ mc) (h2 : slots ≤ ms) (hdg : decode cc pc = .ok (.return_, 1)) (hp : post M) :
    W p l e R s m args below meth c H locs cells slots (MQ below (mQv E M0 sz post) args s mc ms (mA M0 sz)) (F0 m pc ls []) :=
  W.widen h1 h2 (W.vret hx hb hr (fun t ht _ => ⟨⟨M, rfl, hp, by show mOK _ _ _ t.heap; rw [ht]; exact hM⟩, hS.F ht⟩) hS.2.2 hdg hlocks)
theorem m_qret {M0 : mMem} {sz : Nat} {post : Option Nat → mMem → Prop} {C : String} (v : Option Nat) (hx : p.tables.exec = Jvm.exec) (hb : c.code = cc) (hr : meth.sig.returnType = some (.object C)) (hlocks : meth.locks = false) (hM : mOK E.1 (mA M0 sz) M H) (hS : va_S (mA M0 sz) s.heap H locs) (h1 : cells ≤ mc) (h2 : slots ≤ ms) (hdg : decode cc pc = .ok (.areturn, 1)) (hp : post v M) :
    W p l e R s m args below meth c H locs cells slots (MQ below (mQq E M0 sz post) args s mc ms (mA M0 sz)) (F0 m pc ls [va_rf v]) :=
  W.widen h1 h2 (W.aret hx hb hr (Or.inl ⟨C, rfl⟩) (by cases v <;> simp [va_rf]) (fun t ht _ => ⟨⟨v, M, rfl, hp, by show mOK _ _ _ t.heap; rw [ht]; exact hM⟩, hS.F ht⟩) hS.2.2 hdg hlocks)
end MN
