/-! THE MODEL'S CELLS: numbers, and what they have to do with the state -/
def rI : Option Nat → Int32
  | none => -1
  | some r => nI r
theorem rI_lt {o : Option Nat} (h : ∀ r, o = some r → r < 24) : rI o < 0 ↔ o = none := by
  cases o with
  | none => simp [rI]
  | some r =>
    have := h r rfl
    have h1 : ¬ nI r < 0 := by rw [show (0 : Int32) = nI 0 from rfl, nI_ltI (by omega) (by decide)]; omega
    simp [rI, h1]
theorem rI_eq {o : Option Nat} {q : Nat} (h : ∀ r, o = some r → r < 24) (hq : q < 24) : rI o = nI q ↔ o = some q := by
  cases o with
  | none =>
    constructor
    · intro k
      have h1 : ¬ nI q < 0 := by rw [show (0 : Int32) = nI 0 from rfl, nI_ltI (by omega) (by decide)]; omega
      rw [← k] at h1
      exact absurd (by decide) h1
    · intro k; cases k
  | some r =>
    have := h r rfl
    constructor
    · intro k
      have k1 : (nI r).toNatClampNeg = (nI q).toNatClampNeg := congrArg Int32.toNatClampNeg k
      rw [nI_clamp (by omega), nI_clamp (by omega)] at k1
      rw [k1]
    · intro k; cases k; rfl
theorem rI_inj {o p : Option Nat} (h : ∀ r, o = some r → r < 24) (hp : ∀ r, p = some r → r < 24) : rI o = rI p ↔ o = p := by
  cases p with
  | some q => exact rI_eq h (hp q rfl)
  | none =>
    constructor
    · intro k
      exact (rI_lt h).mp (by rw [k]; decide)
    · intro k; rw [k]
def sso (ci : Nat) : Int32 := if ci = 3 then 1 else if ci = 1 then 2 else if ci = 0 then 3 else if ci = 4 then 4 else 0
theorem sso_sci {s : Int32} (h : ¬ s < 0 ∧ s ≤ 4) : sso (sci s) = s := by
  obtain ⟨j, hj, rfl⟩ := nI_of h.1
  have h2 := h.2
  rw [show (4 : Int32) = nI 4 from rfl, nI_leI hj (by decide)] at h2
  rcases (show j = 0 ∨ j = 1 ∨ j = 2 ∨ j = 3 ∨ j = 4 by omega) with rfl | rfl | rfl | rfl | rfl <;> decide
theorem bI_congr {P Q : Prop} [Decidable P] [Decidable Q] (h : P ↔ Q) : bI P = bI Q := by
  by_cases hp : P
  · rw [bI_t hp, bI_t (h.mp hp)]
  · rw [bI_f hp, bI_f (fun q => hp (h.mpr q))]
theorem in_9 {b : Int32} : (¬ b < 0 ∧ ¬ 9 < b) ↔ vB b := by
  have h : (9 : Int32) < b ↔ (10 : Int32) ≤ b := by
    rw [Int32.lt_iff_toInt_lt, Int32.le_iff_toInt_le, show (9 : Int32).toInt = 9 from rfl, show (10 : Int32).toInt = 10 from rfl]
    omega
  simp only [vB, h]
theorem in_3 {b : Int32} : (¬ b < 0 ∧ ¬ 3 < b) ↔ vK b := by
  have h : (¬ (3 : Int32) < b) ↔ b < (4 : Int32) := by
    rw [Int32.lt_iff_toInt_lt, Int32.lt_iff_toInt_lt, show (3 : Int32).toInt = 3 from rfl, show (4 : Int32).toInt = 4 from rfl]
    omega
  simp only [vK, h]
theorem in_127 {b : Int32} : (¬ b < 0 ∧ ¬ 127 < b) ↔ vP b := by simp only [vP, Int32.not_lt]
theorem in_4s {b : Int32} : (¬ b < 0 ∧ ¬ 4 < b) ↔ vS b := by simp only [vS, Int32.not_lt]
theorem in_5 {b : Int32} : (¬ b < 0 ∧ ¬ 5 < b) ↔ vF b := by simp only [vF, Int32.not_lt]
theorem in_m1 {i : Int32} {n : Nat} (hn : n < 2 ^ 31) : (¬ i < 0 ∧ ¬ nI n - 1 < i) ↔ vI n i := by
  constructor
  · rintro ⟨h1, h2⟩
    refine ⟨h1, fun h3 => h2 ?_⟩
    obtain ⟨j, hj, rfl⟩ := nI_of h1
    rw [nI_leI hn hj] at h3
    rw [Int32.lt_iff_toInt_lt, nI_toInt hj]
    have : (nI n - 1).toInt = (n : Int) - 1 := by
      rw [Int32.toInt_sub, nI_toInt hn, show (1 : Int32).toInt = 1 from rfl, Int.bmod_eq_of_le (by omega) (by omega)]
    omega
  · rintro ⟨h1, h2⟩
    refine ⟨h1, fun h3 => h2 ?_⟩
    obtain ⟨j, hj, rfl⟩ := nI_of h1
    rw [nI_leI hn hj]
    rw [Int32.lt_iff_toInt_lt, nI_toInt hj] at h3
    have : (nI n - 1).toInt = (n : Int) - 1 := by
      rw [Int32.toInt_sub, nI_toInt hn, show (1 : Int32).toInt = 1 from rfl, Int.bmod_eq_of_le (by omega) (by omega)]
    omega
theorem k4 (j k : Nat) : (4 : Int32) * nI j + nI k = nI (4 * j + k) := by rw [show (4 : Int32) = nI 4 from rfl, pk_mul, nI_add]
theorem k40 (j k : Nat) : (40 : Int32) * nI j + nI k = nI (40 * j + k) := by rw [show (40 : Int32) = nI 40 from rfl, pk_mul, nI_add]
theorem in_k4 {j k : Nat} (hj : j < 12) (hk : k < 4) : vp_in (nI (4 * j + k)) 48 := vp_in_nI (by omega) (by decide)
theorem in_k40 {j k : Nat} (hj : j < 24) (hk : k < 40) : vp_in (nI (40 * j + k)) 960 := vp_in_nI (by omega) (by decide)
abbrev yCell (b1 b2 b3 b4 b5 b6 b7 b8 b9 b10 b11 b12 b13 b14 b15 b16 : Nat) (ni nf bd st fa : Int32) : va_E := mO 8 [.ref b1, .ref b2, .ref b3, .ref b4, .ref b5, .int ni, .ref b6, .ref b7, .ref b8, .ref b9, .ref b10, .ref b11, .int nf, .ref b12, .ref b13, .int bd, .int st, .int fa, .ref b14, .ref b15, .ref b16]
/-! floats of the model -/
theorem d2l_i2d (n : Int32) : FP.d2l (FP.i2d n) = n.toInt64 := by
  have h := FP.Core.i2d_l2d n
  rw [show FP.i2d n = FP.Core.i2d n from rfl, h]
  refine FP.Core.d2l_l2d ?_
  rw [Int32.toInt_toInt64]
  have h1 := n.toInt_lt
  have h2 := n.le_toInt
  omega
theorem l2d_i (n : Int32) : FP.l2d n.toInt64 = FP.i2d n := (FP.Core.i2d_l2d n).symm
theorem dcmp_se {x : UInt64} (h : FP.Core.DFin x) : FP.dcmp x x = some .eq := FP.Core.dcmp_self h.ne_nan
theorem eq_nm {x : UInt64} {n : Int32} (h : FP.dcmp x (FP.i2d n) = some .eq) (hx : ¬ 2 ^ 63 ≤ x.toNat) : x = FP.i2d n := by
  by_cases hz : FP.Core.DZero (FP.i2d n)
  · have hn : n = 0 := by
      apply Classical.byContradiction
      intro hn
      have h1 := FP.Core.l2d_ne_zero (v := n.toInt64) (fun q => hn (by
        apply Int32.toInt_inj.mp
        rw [← Int32.toInt_toInt64, q]; rfl))
      rw [← show FP.i2d n = FP.Core.l2d n.toInt64 from FP.Core.i2d_l2d n] at h1
      exact h1 ((FP.Core.zero_bits2 _).mp hz)
    subst hn
    have h0 : FP.i2d 0 = 0 := by decide +kernel
    rw [h0] at h ⊢
    have := (FP.Core.zero_bits2 x).mp (FP.Core.zero_iff.mp h)
    exact UInt64.toNat.inj (by show x.toNat = 0; omega)
  · exact FP.Core.eq_bits hz h
theorem dcmp_fin {x a : UInt64} (hx : FP.Core.DFin x) (ha : FP.Core.DFin a) : FP.dcmp x a = some .lt ∨ FP.dcmp x a = some .eq ∨ FP.dcmp x a = some .gt := by
  have h : ∃ o, FP.dcmp x a = some o := ⟨_, FP.Core.dcmp_zval hx.ne_nan ha.ne_nan⟩
  obtain ⟨o, h⟩ := h
  rw [h]
  cases o <;> simp
theorem cv_l (o : CmpOp) : Op.cmpValue (some .lt) o = -1 := by cases o <;> rfl
theorem cv_e (o : CmpOp) : Op.cmpValue (some .eq) o = 0 := by cases o <;> rfl
theorem cv_g (o : CmpOp) : Op.cmpValue (some .gt) o = 1 := by cases o <;> rfl
theorem pass2x {x : UInt64} {n : Int32} (hx : FP.Core.DFin x) (h : Op.cmpValue (FP.dcmp x (FP.i2d n)) CmpOp.g < 0 ∨ (Op.cmpValue (FP.dcmp x (FP.i2d n)) CmpOp.l = 0 ∧ 2 ^ 63 ≤ x.toNat)) : x = sPass 2 (FP.i2d n) x := by
  show _ = (if 0 < Op.cmpValue (FP.dcmp x (FP.i2d n)) CmpOp.g then _ else _)
  rcases dcmp_fin hx (fin_i2d n) with e | e | e
  · rw [e, cv_l]; rfl
  · rw [e, cv_e]; rfl
  · rw [e, cv_g, cv_g] at h
    exact h.elim (fun q => absurd q (by decide)) (fun q => absurd q.1 (by decide))
theorem pass2a {x : UInt64} {n : Int32} (hx : FP.Core.DFin x) (h : ¬ Op.cmpValue (FP.dcmp x (FP.i2d n)) CmpOp.g < 0) (h1 : ¬ Op.cmpValue (FP.dcmp x (FP.i2d n)) CmpOp.l = 0 ∨ ¬ 2 ^ 63 ≤ x.toNat) : FP.i2d n = sPass 2 (FP.i2d n) x := by
  show _ = (if 0 < Op.cmpValue (FP.dcmp x (FP.i2d n)) CmpOp.g then _ else _)
  rcases dcmp_fin hx (fin_i2d n) with e | e | e
  · rw [e, cv_l] at h
    exact absurd (by decide) h
  · rw [e, cv_e] at h1
    rw [e, cv_e]
    exact (eq_nm e (h1.resolve_left (fun q => q rfl))).symm
  · rw [e, cv_g]; rfl
theorem pass3x {x : UInt64} {n : Int32} (hx : FP.Core.DFin x) (h : 0 < Op.cmpValue (FP.dcmp x (FP.i2d n)) CmpOp.l ∨ (Op.cmpValue (FP.dcmp x (FP.i2d n)) CmpOp.l = 0 ∧ ¬ 2 ^ 63 ≤ x.toNat)) : x = sPass 3 (FP.i2d n) x := by
  show _ = (if Op.cmpValue (FP.dcmp x (FP.i2d n)) CmpOp.l ≤ 0 then _ else _)
  rcases dcmp_fin hx (fin_i2d n) with e | e | e
  · rw [e, cv_l] at h
    exact h.elim (fun q => absurd q (by decide)) (fun q => absurd q.1 (by decide))
  · rw [e, cv_e] at h
    rw [e, cv_e]
    exact eq_nm e (h.resolve_left (by decide)).2
  · rw [e, cv_g]; rfl
theorem pass3a {x : UInt64} {n : Int32} (hx : FP.Core.DFin x) (h : ¬ 0 < Op.cmpValue (FP.dcmp x (FP.i2d n)) CmpOp.l) : FP.i2d n = sPass 3 (FP.i2d n) x := by
  show _ = (if Op.cmpValue (FP.dcmp x (FP.i2d n)) CmpOp.l ≤ 0 then _ else _)
  rw [if_pos (Int32.not_lt.mp h)]
theorem lge {x : UInt64} : 0 ≤ lg_cmp x.toInt64 0 ↔ ¬ 2 ^ 63 ≤ x.toNat := by
  rw [lg_cmp_ge, Int64.le_iff_toInt_le]
  show (0 : Int) ≤ x.toBitVec.toInt ↔ _
  rw [BitVec.toInt_eq_toNat_cond]
  have := x.toNat_lt
  show (0 : Int) ≤ (if 2 * x.toNat < 2 ^ 64 then (x.toNat : Int) else (x.toNat : Int) - ((2 ^ 64 : Nat) : Int)) ↔ _
  split <;> omega
theorem sBits0 (n : Int32) : sBits 0 (FP.i2d n) = n.toInt64 := d2l_i2d n
theorem sBits1 (n : Int32) : sBits 1 (FP.i2d n) = n.toInt64 := d2l_i2d n
/-- a method of a class that has rows of its own for natives, but none for this one -/
theorem m_ofWF {l : Launch} {y : MethodName} {ws ws' : List Cond} {rm : Room} {Pc : Array Value → State → Prop} {Qc : Array Value → State → Outcome → State → Prop} {mc ms : Nat} {free : Addr → Prop} {cc : ByteArray} {maxL : Nat} {ret : Option FieldType}
    (hy : plainFor y = true) (hw : ws = Cond.code y cc maxL ret :: ws')
    (body : ∀ p e s m args below meth c s₁, BodyLoose p l y (headSpec ws rm) cc maxL ret e s m args below meth c s₁ → c.maxLocals = maxL → Pc args s →
      W p l e (headSpec ws rm).room s m args below meth c s.heap [] 0 0 (MQ below Qc args s mc ms free) (entryFrame m args maxL)) : Met l y ws rm Pc Qc mc ms free := by
  refine MetFree.of_bodySF (code := cc) (maxLocals := maxL) (ret := ret) hy ?_ ?_
  · intro args s m h hn
    obtain ⟨meth, c, h1, h2, h3, h4, h5, h6, _⟩ := Cond.code_spec hn (atoms_spec (ws := ws) h _ (by rw [hw]; exact List.mem_cons_self))
    exact ⟨meth, c, h1, h2, h3, h4, h5, h6⟩
  · intro p e s m args below meth c s₁ B hml hP _
    have hh0 : s₁.heap = s.heap := by rw [B.state]; rfl
    obtain ⟨t, a1, o, b1, b2, b3⟩ := body p e s m args below meth c s₁ B hml hP s₁ hh0 (Stand.of_body B)
    exact ⟨t, o, a1, b1, b2, ⟨b3.1, b3.2⟩⟩
theorem m_metF {l : Launch} {y : MethodName} {ws ws' : List Cond} {rm : Room} {Qc : Array Value → State → Outcome → State → Prop} {mc ms : Nat} {cc : ByteArray} {maxL : Nat} {ret : Option FieldType} {E : mEnv} {M : mMem} {sz : Nat} (av : List Value) (hy : plainFor y = true) (hw : ws = Cond.code y cc maxL ret :: ws') (hn : (lg_sl av).length ≤ maxL)
    (body : ∀ (p : Program) (e : Env) (s : State) (m : MethodId) (below : List Frame) (meth : Method) (c : Code) (ls : Array Slot) (H : Heap), H = s.heap → p.tables.exec = Jvm.exec → c.code = cc → meth.sig.returnType = ret → (∀ w ∈ ws, w.before av.toArray s = true) → s.vm.findClass y.cls = some m.cls → meth.locks = false → meth.name = y.name → c.maxLocals = maxL → s.heap.size = sz → mE E s → mOK E.1 (mA M sz) M H → va_S (mA M sz) s.heap H [] → (∀ q : Nat, s.heap.size ≤ q → mA M sz q) → lv_has ls maxL (lv_args 0 av) → W p l e rm s m av.toArray below meth c H [] 0 0 (MQ below Qc av.toArray s mc ms (mA M sz)) (F0 m 0 ls [])) :
    Met l y ws rm (mPre E M sz av) Qc mc ms (mA M sz) := by
  refine m_ofWF (cc := cc) (maxL := maxL) (ret := ret) hy hw ?_
  intro p e s m args below meth c s₁ B hml hv
  obtain ⟨rfl, hsz, hM, hE⟩ := hv
  rw [lg_entry_eq]
  exact body p e s m below meth c _ s.heap rfl B.exec B.bytes B.returns (atoms_spec (ws := ws) B.pre) (findClass_of_methodNamed B.named) B.notSynchronized (name_of_methodNamed B.named B.method).1 hml hsz hE (hM.self sz) va_S.rf (fun q h => Or.inr (by omega)) (lv_entry av hn)
