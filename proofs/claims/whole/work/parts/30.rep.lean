/-! THE STATE: a value for both sides. An instrument: its class's number, knobs, pitch, on, phase, level, its table's row. A row: lane, how many samples, the samples (as the class holds them). -/
abbrev sIn : Type := Nat × (Nat → Int32) × Int32 × Int32 × Int32 × UInt64 × Option Nat
abbrev sRw : Type := Int32 × Nat × (Nat → UInt64)
abbrev Sg : Type := Nat × (Nat → sIn) × Nat × (Nat → Int32 × Int32) × (Nat → Option Nat) × (Nat → sRw) × Int32 × Int32 × Int32 × Int32 × Int32
def live (nn : Nat) (ins : Nat → sIn) (bk : Nat → Option Nat) (r : Nat) : Prop := (∃ k, k < 10 ∧ bk k = some r) ∨ (∃ i, i < nn ∧ (ins i).2.2.2.2.2.2 = some r)
abbrev vB (b : Int32) : Prop := ¬ b < 0 ∧ ¬ 10 ≤ b
abbrev vI (nn : Nat) (i : Int32) : Prop := ¬ i < 0 ∧ ¬ nI nn ≤ i
/-- what holds of every state that is reached -/
def Inv (σ : Sg) : Prop := match σ with
  | (nn, ins, nf, fn, bk, rw, _) => nn ≤ 12 ∧ nf ≤ 8 ∧ (∀ i, i < nn → ∀ ci kf pi on ph le tb, ins i = (ci, kf, pi, on, ph, le, tb) → insK ci ∧ dL le ∧ (on = 0 ∨ on = 1)) ∧ (∀ i, nn ≤ i → (ins i).2 = ((fun _ => 0), 0, 0, 0, 0, none)) ∧ (∀ r, live nn ins bk r → r < 24) ∧ (∀ r, live nn ins bk r → ∀ lane n f, rw r = (lane, n, f) → n ≤ 40 ∧ (lane = 0 ∨ lane = 1 ∨ lane = 2 ∨ lane = 3) ∧ ∀ j, j < n → vOK lane (f j)) ∧ (∀ i, i < nf → 0 ≤ (fn i).1 ∧ (fn i).1 ≤ 5)
/-- the instruments' cells -/
def pIns (E : mEnv) (M : mMem) (nn : Nat) (ins : Nat → sIn) (fi : Nat → Option Nat) (ia ib ra : Nat → Nat) (fl : Nat → Int32) : Prop := ∀ i, i < nn → ∀ ci kf pi on ph le tb, ins i = (ci, kf, pi, on, ph, le, tb) → fi i = some (ia i) ∧ M (ia i) = some (mO ci [.ref (ib i), .int pi, .int on, .int ph, .double le, va_rf (tb.map ra), .int (fl i)]) ∧ M (ib i) = some (mI E 4 kf)
def pFun (M : mMem) (nf : Nat) (fn : Nat → Int32 × Int32) (ff : Nat → Option Nat) (fa : Nat → Nat) : Prop := ∀ i, i < nf → ff i = some (fa i) ∧ M (fa i) = some (mO 2 [.int (fn i).1, .double (FP.i2d (fn i).2)])
def pRow (E : mEnv) (M : mMem) (LV : Nat → Prop) (rw : Nat → sRw) (ra rb : Nat → Nat) (a4 : Nat) : Prop := ∀ r, LV r → ∀ lane n f, rw r = (lane, n, f) → M (ra r) = some (mO 5 [.int lane, .ref (rb r)]) ∧ M (rb r) = some (mDb E n f) ∧ rb r ≠ a4
def pInj (nn : Nat) (LV : Nat → Prop) (ia ib ra rb : Nat → Nat) : Prop := (∀ i j, i < nn → j < nn → ia i = ia j → i = j) ∧ (∀ i j, i < nn → j < nn → ib i = ib j → i = j) ∧ (∀ r q, LV r → LV q → ra r = ra q → r = q) ∧ (∀ r q, LV r → LV q → rb r = rb q → r = q)
def pNo (NO : Nat → Prop) (x a1 a2 a3 a4 nn nf : Nat) (LV : Nat → Prop) (ia ib fa ra rb : Nat → Nat) : Prop := (¬ NO x ∧ ¬ NO a1 ∧ ¬ NO a2 ∧ ¬ NO a3 ∧ ¬ NO a4) ∧ (∀ i, i < nn → ¬ NO (ia i) ∧ ¬ NO (ib i)) ∧ (∀ i, i < nf → ¬ NO (fa i)) ∧ (∀ r, LV r → ¬ NO (ra r) ∧ ¬ NO (rb r))
abbrev xCell (a1 a2 a3 a4 nn nf : Nat) (bd st c2 c3 c4 : Int32) : va_E := mO 7 [.ref a1, .ref a2, .ref a3, .ref a4, .int (nI nn), .int (nI nf), .int bd, .int st, .int c2, .int c3, .int c4]
/-- the class's cells hold the state, with these addresses -/
def cR (E : mEnv) (M : mMem) (NO : Nat → Prop) (x : Nat) (σ : Sg) (a1 a2 a3 a4 : Nat) (fi fb ff : Nat → Option Nat) (wt : Nat → UInt64) (ia ib fa ra rb : Nat → Nat) (fl : Nat → Int32) (LV : Nat → Prop) : Prop := match σ with
  | (nn, ins, nf, fn, bk, rw, bd, st, c2, c3, c4) => (M x = some (xCell a1 a2 a3 a4 nn nf bd st c2 c3 c4) ∧ M a1 = some (mQ E 4 12 fi) ∧ M a2 = some (mQ E 5 10 fb) ∧ M a3 = some (mQ E 6 8 ff) ∧ M a4 = some (mDb E 40 wt)) ∧ pIns E M nn ins fi ia ib ra fl ∧ pFun M nf fn ff fa ∧ (∀ k, k < 10 → fb k = (bk k).map ra) ∧ (∀ r, live nn ins bk r → LV r) ∧ pRow E M LV rw ra rb a4 ∧ pInj nn LV ia ib ra rb ∧ pNo NO x a1 a2 a3 a4 nn nf LV ia ib fa ra rb
def cRep (E : mEnv) (M : mMem) (NO : Nat → Prop) (x : Nat) (σ : Sg) : Prop := ∃ (a1 a2 a3 a4 : Nat) (fi fb ff : Nat → Option Nat) (wt : Nat → UInt64) (ia ib fa ra rb : Nat → Nat) (fl : Nat → Int32) (LV : Nat → Prop), cR E M NO x σ a1 a2 a3 a4 fi fb ff wt ia ib fa ra rb fl LV
theorem cR.rep {E : mEnv} {M : mMem} {NO : Nat → Prop} {x : Nat} {σ : Sg} {a1 a2 a3 a4 : Nat} {fi fb ff : Nat → Option Nat} {wt : Nat → UInt64} {ia ib fa ra rb : Nat → Nat} {fl : Nat → Int32} {LV : Nat → Prop} (h : cR E M NO x σ a1 a2 a3 a4 fi fb ff wt ia ib fa ra rb fl LV) : cRep E M NO x σ := ⟨_, _, _, _, _, _, _, _, _, _, _, _, _, _, _, h⟩
section UPD
variable {E : mEnv} {M : mMem} {NO LV : Nat → Prop} {nn nf x a1 a2 a3 a4 z : Nat} {ins : Nat → sIn} {fn : Nat → Int32 × Int32} {bk fi fb ff : Nat → Option Nat} {rw : Nat → sRw} {bd st c2 c3 c4 : Int32} {wt : Nat → UInt64} {ia ib fa ra rb : Nat → Nat} {fl : Nat → Int32} {e e0 : va_E}
/-- a cell of another kind was written -/
theorem pIns.up (h : pIns E M nn ins fi ia ib ra fl) (h1 : ∀ i, i < nn → ia i ≠ z) (h2 : ∀ i, i < nn → ib i ≠ z) : pIns E (mUp M z e) nn ins fi ia ib ra fl := fun i hi ci kf pi on ph le tb he => ⟨(h i hi ci kf pi on ph le tb he).1, mUp_at (h1 i hi) (h i hi ci kf pi on ph le tb he).2.1, mUp_at (h2 i hi) (h i hi ci kf pi on ph le tb he).2.2⟩
theorem pFun.up (h : pFun M nf fn ff fa) (h1 : ∀ i, i < nf → fa i ≠ z) : pFun (mUp M z e) nf fn ff fa := fun i hi => ⟨(h i hi).1, mUp_at (h1 i hi) (h i hi).2⟩
theorem pRow.up (h : pRow E M LV rw ra rb a4) (h1 : ∀ r, LV r → ra r ≠ z) (h2 : ∀ r, LV r → rb r ≠ z) : pRow E (mUp M z e) LV rw ra rb a4 := fun r hr lane n f he => ⟨mUp_at (h1 r hr) (h r hr lane n f he).1, mUp_at (h2 r hr) (h r hr lane n f he).2.1, (h r hr lane n f he).2.2⟩
theorem pIns.ia_ne (h : pIns E M nn ins fi ia ib ra fl) (hz : M z = some e0) (hk : ∀ ci fs, insK ci → e0 ≠ mO ci fs) (hi0 : ∀ i, i < nn → insK (ins i).1) : ∀ i, i < nn → ia i ≠ z := fun i hi => m_ne (h i hi _ _ _ _ _ _ _ rfl).2.1 hz (fun q => hk _ _ (hi0 i hi) q.symm)
theorem pIns.ib_ne (h : pIns E M nn ins fi ia ib ra fl) (hz : M z = some e0) (hk : ∀ f, e0 ≠ mI E 4 f) : ∀ i, i < nn → ib i ≠ z := fun i hi => m_ne (h i hi _ _ _ _ _ _ _ rfl).2.2 hz (fun q => hk _ q.symm)
theorem pFun.ne (h : pFun M nf fn ff fa) (hz : M z = some e0) (hk : ∀ fs, e0 ≠ mO 2 fs) : ∀ i, i < nf → fa i ≠ z := fun i hi => m_ne (h i hi).2 hz (fun q => hk _ q.symm)
theorem pRow.ra_ne (h : pRow E M LV rw ra rb a4) (hz : M z = some e0) (hk : ∀ fs, e0 ≠ mO 5 fs) : ∀ r, LV r → ra r ≠ z := fun r hr => m_ne (h r hr _ _ _ rfl).1 hz (fun q => hk _ q.symm)
theorem pRow.rb_ne (h : pRow E M LV rw ra rb a4) (hz : M z = some e0) (hk : ∀ n f, e0 ≠ mDb E n f) : ∀ r, LV r → rb r ≠ z := fun r hr => m_ne (h r hr _ _ _ rfl).2.1 hz (fun q => hk _ _ q.symm)
theorem insK_ne {ci : Nat} (h : insK ci) : ci ≠ 2 ∧ ci ≠ 5 ∧ ci ≠ 7 ∧ ci ≠ 8 := by
  rcases h with rfl | rfl | rfl | rfl | rfl <;> decide
end UPD
theorem Inv.insK {nn nf : Nat} {ins : Nat → sIn} {fn : Nat → Int32 × Int32} {bk : Nat → Option Nat} {rw : Nat → sRw} {q : Int32 × Int32 × Int32 × Int32 × Int32} (h : Inv (nn, ins, nf, fn, bk, rw, q)) : ∀ i, i < nn → insK (ins i).1 := fun i hi => (h.2.2.1 i hi _ _ _ _ _ _ _ rfl).1
section CR
variable {E : mEnv} {M : mMem} {NO LV : Nat → Prop} {nn nf x a1 a2 a3 a4 : Nat} {ins : Nat → sIn} {fn : Nat → Int32 × Int32} {bk fi fb ff : Nat → Option Nat} {rw : Nat → sRw} {bd st c2 c3 c4 : Int32} {wt : Nat → UInt64} {ia ib fa ra rb : Nat → Nat} {fl : Nat → Int32}
/-- the object's own numbers are written -/
theorem cR.scal {bd' st' c2' c3' c4' : Int32} (hi : ∀ i, i < nn → insK (ins i).1) (h : cR E M NO x (nn, ins, nf, fn, bk, rw, bd, st, c2, c3, c4) a1 a2 a3 a4 fi fb ff wt ia ib fa ra rb fl LV) : cR E (mUp M x (xCell a1 a2 a3 a4 nn nf bd' st' c2' c3' c4')) NO x (nn, ins, nf, fn, bk, rw, bd', st', c2', c3', c4') a1 a2 a3 a4 fi fb ff wt ia ib fa ra rb fl LV := by
  obtain ⟨⟨g_x, g1, g2, g3, g4⟩, hI, hF, hB, hL, hR, hJ, hN⟩ := h
  refine ⟨⟨mUp_self _ _ _, mUp_at (m_ne g1 g_x (by simp)) g1, mUp_at (m_ne g2 g_x (by simp)) g2, mUp_at (m_ne g3 g_x (by simp)) g3, mUp_at (m_ne g4 g_x (by simp)) g4⟩, ?_, ?_, hB, hL, ?_, hJ, hN⟩
  · exact hI.up (hI.ia_ne g_x (fun ci fs hc q => by have := (insK_ne hc).2.2.1; simp at q; exact this q.1.symm) hi) (hI.ib_ne g_x (fun f q => by simp at q))
  · exact hF.up (hF.ne g_x (fun fs q => by simp at q))
  · exact hR.up (hR.ra_ne g_x (fun fs q => by simp at q)) (hR.rb_ne g_x (fun n f q => by simp at q))
theorem live_up {j : Nat} {v : sIn} (hv : v.2.2.2.2.2.2 = (ins j).2.2.2.2.2.2) (r : Nat) : live nn (va_up ins j v) bk r ↔ live nn ins bk r := by
  have h : ∀ i, (va_up ins j v i).2.2.2.2.2.2 = (ins i).2.2.2.2.2.2 := by
    intro i
    by_cases hi : i = j
    · subst hi
      simp [va_up, hv]
    · simp [va_up, hi]
  unfold live
  simp only [h]
/-- an instrument's own cell is written: pitch, on, phase, level, its failure -/
theorem cR.inst {j ci : Nat} {kf : Nat → Int32} {pi on ph pi' on' ph' fl' : Int32} {le le' : UInt64} {tb : Option Nat} (hi : ∀ i, i < nn → insK (ins i).1) (hj : j < nn) (hins : ins j = (ci, kf, pi, on, ph, le, tb)) (h : cR E M NO x (nn, ins, nf, fn, bk, rw, bd, st, c2, c3, c4) a1 a2 a3 a4 fi fb ff wt ia ib fa ra rb fl LV) : cR E (mUp M (ia j) (mO ci [.ref (ib j), .int pi', .int on', .int ph', .double le', va_rf (tb.map ra), .int fl'])) NO x (nn, va_up ins j (ci, kf, pi', on', ph', le', tb), nf, fn, bk, rw, bd, st, c2, c3, c4) a1 a2 a3 a4 fi fb ff wt ia ib fa ra rb (va_up fl j fl') LV := by
  obtain ⟨⟨g_x, g1, g2, g3, g4⟩, hI, hF, hB, hL, hR, hJ, hN⟩ := h
  obtain ⟨k1, k2, k3⟩ := hI j hj _ _ _ _ _ _ _ hins
  have hc := insK_ne (by have := hi j hj; rw [hins] at this; exact this)
  refine ⟨⟨mUp_at (m_ne g_x k2 (by simp)) g_x, mUp_at (m_ne g1 k2 (by simp)) g1, mUp_at (m_ne g2 k2 (by simp)) g2, mUp_at (m_ne g3 k2 (by simp)) g3, mUp_at (m_ne g4 k2 (by simp)) g4⟩, ?_, ?_, hB, fun r hr => hL r ((live_up (by rw [hins]) r).mp hr), ?_, hJ, hN⟩
  · intro i hi2 ci2 kf2 pi2 on2 ph2 le2 tb2 he
    by_cases hij : i = j
    · subst hij
      rw [va_up_self] at he
      simp only [Prod.mk.injEq] at he
      obtain ⟨rfl, rfl, rfl, rfl, rfl, rfl, rfl⟩ := he
      rw [va_up_self]
      exact ⟨k1, mUp_self _ _ _, mUp_at (m_ne k3 k2 (by simp)) k3⟩
    · rw [va_up_ne _ _ hij] at he
      rw [va_up_ne _ _ hij]
      obtain ⟨m1, m2, m3⟩ := hI i hi2 _ _ _ _ _ _ _ he
      exact ⟨m1, mUp_at (fun q => hij (hJ.1 i j hi2 hj q)) m2, mUp_at (m_ne m3 k2 (by simp)) m3⟩
  · exact hF.up (hF.ne k2 (fun fs q => by simp at q; exact hc.1 q.1))
  · exact hR.up (hR.ra_ne k2 (fun fs q => by simp at q; exact hc.2.1 q.1)) (hR.rb_ne k2 (fun n f q => by simp at q))
/-- its knobs are written -/
theorem cR.knob {j ci : Nat} {kf kf' : Nat → Int32} {pi on ph : Int32} {le : UInt64} {tb : Option Nat} (hi : ∀ i, i < nn → insK (ins i).1) (hj : j < nn) (hins : ins j = (ci, kf, pi, on, ph, le, tb)) (h : cR E M NO x (nn, ins, nf, fn, bk, rw, bd, st, c2, c3, c4) a1 a2 a3 a4 fi fb ff wt ia ib fa ra rb fl LV) : cR E (mUp M (ib j) (mI E 4 kf')) NO x (nn, va_up ins j (ci, kf', pi, on, ph, le, tb), nf, fn, bk, rw, bd, st, c2, c3, c4) a1 a2 a3 a4 fi fb ff wt ia ib fa ra rb fl LV := by
  obtain ⟨⟨g_x, g1, g2, g3, g4⟩, hI, hF, hB, hL, hR, hJ, hN⟩ := h
  obtain ⟨k1, k2, k3⟩ := hI j hj _ _ _ _ _ _ _ hins
  refine ⟨⟨mUp_at (m_ne g_x k3 (by simp)) g_x, mUp_at (m_ne g1 k3 (by simp)) g1, mUp_at (m_ne g2 k3 (by simp)) g2, mUp_at (m_ne g3 k3 (by simp)) g3, mUp_at (m_ne g4 k3 (by simp)) g4⟩, ?_, ?_, hB, fun r hr => hL r ((live_up (by rw [hins]) r).mp hr), ?_, hJ, hN⟩
  · intro i hi2 ci2 kf2 pi2 on2 ph2 le2 tb2 he
    by_cases hij : i = j
    · subst hij
      rw [va_up_self] at he
      simp only [Prod.mk.injEq] at he
      obtain ⟨rfl, rfl, rfl, rfl, rfl, rfl, rfl⟩ := he
      exact ⟨k1, mUp_at (m_ne k2 k3 (by simp)) k2, mUp_self _ _ _⟩
    · rw [va_up_ne _ _ hij] at he
      obtain ⟨m1, m2, m3⟩ := hI i hi2 _ _ _ _ _ _ _ he
      exact ⟨m1, mUp_at (m_ne m2 k3 (by simp)) m2, mUp_at (fun q => hij (hJ.2.1 i j hi2 hj q)) m3⟩
  · exact hF.up (hF.ne k3 (fun fs q => by simp at q))
  · exact hR.up (hR.ra_ne k3 (fun fs q => by simp at q)) (hR.rb_ne k3 (fun n f q => by simp at q))
/-- the waiting row is written -/
theorem cR.wait {wt' : Nat → UInt64} (hi : ∀ i, i < nn → insK (ins i).1) (h : cR E M NO x (nn, ins, nf, fn, bk, rw, bd, st, c2, c3, c4) a1 a2 a3 a4 fi fb ff wt ia ib fa ra rb fl LV) : cR E (mUp M a4 (mDb E 40 wt')) NO x (nn, ins, nf, fn, bk, rw, bd, st, c2, c3, c4) a1 a2 a3 a4 fi fb ff wt' ia ib fa ra rb fl LV := by
  obtain ⟨⟨g_x, g1, g2, g3, g4⟩, hI, hF, hB, hL, hR, hJ, hN⟩ := h
  refine ⟨⟨mUp_at (m_ne g_x g4 (by simp)) g_x, mUp_at (m_ne g1 g4 (by simp)) g1, mUp_at (m_ne g2 g4 (by simp)) g2, mUp_at (m_ne g3 g4 (by simp)) g3, mUp_self _ _ _⟩, ?_, ?_, hB, hL, ?_, hJ, hN⟩
  · exact hI.up (hI.ia_ne g4 (fun ci fs hc q => by simp at q) hi) (hI.ib_ne g4 (fun f q => by simp at q))
  · exact hF.up (hF.ne g4 (fun fs q => by simp at q))
  · exact hR.up (hR.ra_ne g4 (fun fs q => by simp at q)) (fun r hr => (hR r hr _ _ _ rfl).2.2)
/-- a row's samples are written -/
theorem cR.row {r n : Nat} {lane : Int32} {f f' : Nat → UInt64} (hi : ∀ i, i < nn → insK (ins i).1) (hr : LV r) (hrw : rw r = (lane, n, f)) (h : cR E M NO x (nn, ins, nf, fn, bk, rw, bd, st, c2, c3, c4) a1 a2 a3 a4 fi fb ff wt ia ib fa ra rb fl LV) : cR E (mUp M (rb r) (mDb E n f')) NO x (nn, ins, nf, fn, bk, va_up rw r (lane, n, f'), bd, st, c2, c3, c4) a1 a2 a3 a4 fi fb ff wt ia ib fa ra rb fl LV := by
  obtain ⟨⟨g_x, g1, g2, g3, g4⟩, hI, hF, hB, hL, hR, hJ, hN⟩ := h
  obtain ⟨k1, k2, k3⟩ := hR r hr _ _ _ hrw
  refine ⟨⟨mUp_at (m_ne g_x k2 (by simp)) g_x, mUp_at (m_ne g1 k2 (by simp)) g1, mUp_at (m_ne g2 k2 (by simp)) g2, mUp_at (m_ne g3 k2 (by simp)) g3, mUp_at (Ne.symm k3) g4⟩, ?_, ?_, hB, hL, ?_, hJ, hN⟩
  · exact hI.up (hI.ia_ne k2 (fun ci fs hc q => by simp at q) hi) (hI.ib_ne k2 (fun f q => by simp at q))
  · exact hF.up (hF.ne k2 (fun fs q => by simp at q))
  · intro q hq lane2 n2 f2 he
    by_cases hqr : q = r
    · subst hqr
      rw [va_up_self] at he
      simp only [Prod.mk.injEq] at he
      obtain ⟨rfl, rfl, rfl⟩ := he
      exact ⟨mUp_at (m_ne k1 k2 (by simp)) k1, mUp_self _ _ _, k3⟩
    · rw [va_up_ne _ _ hqr] at he
      obtain ⟨m1, m2, m3⟩ := hR q hq _ _ _ he
      exact ⟨mUp_at (m_ne m1 k2 (by simp)) m1, mUp_at (fun z => hqr (hJ.2.2.2 q r hq hr z)) m2, m3⟩
end CR
/-- which cells stay: those that are not the class's -/
def kept (NO : Nat → Prop) (M u : mMem) : Prop := ∀ q, NO q → u q = M q
theorem kept.rf {NO : Nat → Prop} {M : mMem} : kept NO M M := fun _ _ => rfl
theorem kept.up {NO : Nat → Prop} {M u : mMem} {z : Nat} {e : va_E} (h : kept NO M u) (hz : ¬ NO z) : kept NO M (mUp u z e) := fun q hq => (mUp_ne (a := z) (q := q) (fun k => hz (by rw [← k]; exact hq))).trans (h q hq)
theorem vI_ix {i : Int32} {nn : Nat} (h : vI nn i) (hnn : nn ≤ 12) : ∃ j, j < nn ∧ i = nI j ∧ i.toNatClampNeg = j := by
  obtain ⟨j, hj, rfl⟩ := nI_of h.1
  have h2 := h.2
  rw [nI_leI (by omega) hj] at h2
  exact ⟨j, by omega, rfl, nI_clamp hj⟩
theorem vB_ix {b : Int32} (h : vB b) : ∃ j, j < 10 ∧ b = nI j ∧ b.toNatClampNeg = j := by
  obtain ⟨j, hj, rfl⟩ := nI_of h.1
  have h2 := h.2
  rw [show (10 : Int32) = nI 10 from rfl, nI_leI (by omega) hj] at h2
  exact ⟨j, by omega, rfl, nI_clamp hj⟩
