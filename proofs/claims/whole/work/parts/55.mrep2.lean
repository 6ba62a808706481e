/-! THE MODEL'S CELLS HOLD THE STATE -/
def mCl (E : mEnv) (M : mMem) (y b1 b2 b3 b4 b5 b6 b7 b8 b9 b10 b11 b12 b13 b14 b15 b16 : Nat) (ni nf bd st fa : Int32) (B T LN SZ : Nat → Int32) (SM : Nat → Int64) (SO KN PI ON PH : Nat → Int32) (LE : Nat → UInt64) (KD NM CT : Nat → Int32) (CM : Nat → UInt64) (MV : Nat → Int64) : Prop :=
  M y = some (yCell b1 b2 b3 b4 b5 b6 b7 b8 b9 b10 b11 b12 b13 b14 b15 b16 ni nf bd st fa) ∧ M b1 = some (mI E 10 B) ∧ M b2 = some (mI E 12 T) ∧ M b3 = some (mI E 24 LN) ∧ M b4 = some (mI E 24 SZ) ∧ M b5 = some (mJ E 960 SM) ∧ M b6 = some (mI E 12 SO) ∧ M b7 = some (mI E 48 KN) ∧ M b8 = some (mI E 12 PI) ∧ M b9 = some (mZ E 12 ON) ∧ M b10 = some (mI E 12 PH) ∧ M b11 = some (mDb E 12 LE) ∧ M b12 = some (mI E 8 KD) ∧ M b13 = some (mI E 8 NM) ∧ M b14 = some (mI E 3 CT) ∧ M b15 = some (mDb E 40 CM) ∧ M b16 = some (mJ E 40 MV)
def rlB (bk : Nat → Option Nat) (B : Nat → Int32) : Prop := ∀ k, k < 10 → B k = rI (bk k)
def rlT (tb : Nat → Option Nat) (T : Nat → Int32) : Prop := ∀ i, i < 12 → T i = rI (tb i)
def rlR (LV : Nat → Prop) (rw : Nat → sRw) (LN SZ : Nat → Int32) (SM : Nat → Int64) : Prop := ∀ r, LV r → ∀ lane n f, rw r = (lane, n, f) → LN r = lane ∧ SZ r = nI n ∧ ∀ j, j < n → SM (40 * r + j) = sBits lane (f j)
def rlN (nn : Nat) (ins : Nat → sIn) (SO KN PI ON PH : Nat → Int32) (LE : Nat → UInt64) : Prop := ∀ i, i < 12 → ∀ ci kf pi on ph le tb, ins i = (ci, kf, pi, on, ph, le, tb) → (i < nn → SO i = sso ci) ∧ (∀ k, k < 4 → KN (4 * i + k) = kf k) ∧ PI i = pi ∧ ON i = on ∧ PH i = ph ∧ (nn ≤ i ∨ ci = 0 ∨ ci = 1 → LE i = le)
def rlF (nf : Nat) (fn : Nat → Int32 × Int32) (KD NM : Nat → Int32) : Prop := ∀ i, i < nf → KD i = (fn i).1 ∧ NM i = (fn i).2
def mRl (nn : Nat) (ins : Nat → sIn) (nf : Nat) (fn : Nat → Int32 × Int32) (bk : Nat → Option Nat) (rw : Nat → sRw) (c2 c3 c4 : Int32) (B T LN SZ : Nat → Int32) (SM : Nat → Int64) (SO KN PI ON PH : Nat → Int32) (LE : Nat → UInt64) (KD NM CT : Nat → Int32) : Prop :=
  rlB bk B ∧ rlT (tbs ins) T ∧ rlR (live nn ins bk) rw LN SZ SM ∧ rlN nn ins SO KN PI ON PH LE ∧ rlF nf fn KD NM ∧ CT 0 = c2 ∧ CT 1 = c3 ∧ CT 2 = c4
def mR (E : mEnv) (M : mMem) (y b1 b2 b3 b4 b5 b6 b7 b8 b9 b10 b11 b12 b13 b14 b15 b16 : Nat) (σ : Sg) : Prop := match σ with
  | (nn, ins, nf, fn, bk, rw, bd, st, c2, c3, c4) => ∃ (fa : Int32) (B T LN SZ : Nat → Int32) (SM : Nat → Int64) (SO KN PI ON PH : Nat → Int32) (LE : Nat → UInt64) (KD NM CT : Nat → Int32) (CM : Nat → UInt64) (MV : Nat → Int64), mCl E M y b1 b2 b3 b4 b5 b6 b7 b8 b9 b10 b11 b12 b13 b14 b15 b16 (nI nn) (nI nf) bd st fa B T LN SZ SM SO KN PI ON PH LE KD NM CT CM MV ∧ mRl nn ins nf fn bk rw c2 c3 c4 B T LN SZ SM SO KN PI ON PH LE KD NM CT
/-- addresses that are none of the model's -/
def nol (y b1 b2 b3 b4 b5 b6 b7 b8 b9 b10 b11 b12 b13 b14 b15 b16 : Nat) : Nat → Prop := fun q => q ∉ [y, b1, b2, b3, b4, b5, b6, b7, b8, b9, b10, b11, b12, b13, b14, b15, b16]
theorem nol_in {y b1 b2 b3 b4 b5 b6 b7 b8 b9 b10 b11 b12 b13 b14 b15 b16 z : Nat} (k : Nat) (h : [y, b1, b2, b3, b4, b5, b6, b7, b8, b9, b10, b11, b12, b13, b14, b15, b16][k]? = some z) : ¬ nol y b1 b2 b3 b4 b5 b6 b7 b8 b9 b10 b11 b12 b13 b14 b15 b16 z := fun q => q (List.mem_of_getElem? h)
theorem nd_ne {l : List Nat} (h : l.Nodup) (i j : Nat) {a b : Nat} (ha : l[i]? = some a) (hb : l[j]? = some b) (hij : i ≠ j) : a ≠ b := by
  intro e
  subst e
  obtain ⟨hi, e1⟩ := List.getElem?_eq_some_iff.mp ha
  obtain ⟨hj, e2⟩ := List.getElem?_eq_some_iff.mp hb
  exact hij ((List.getElem_inj h).mp (e1.trans e2.symm))
theorem kept.tri {NO : Nat → Prop} {M u : mMem} {p x a : Nat} {X Y Z : va_E} (h : kept NO M u) (h1 : ¬ NO p) (h2 : ¬ NO x) (h3 : ¬ NO a) : kept NO M (tri u p x a X Y Z) := ((h.up h1).up h2).up h3
section RL
variable {nn nf : Nat} {ins : Nat → sIn} {fn : Nat → Int32 × Int32} {bk tb : Nat → Option Nat} {rw : Nat → sRw} {B T LN SZ LN' SZ' : Nat → Int32} {SM SM' : Nat → Int64} {SO KN PI ON PH : Nat → Int32} {LE : Nat → UInt64} {KD NM CT : Nat → Int32} {LV LV' : Nat → Prop}
theorem rlB.up {j : Nat} {o : Option Nat} {v : Int32} (h : rlB bk B) (hv : v = rI o) : rlB (va_up bk j o) (upd B j v) := fun k hk => by
  by_cases hkj : k = j
  · subst hkj; simp [upd, va_up, hv]
  · simp only [upd, va_up, hkj, if_false]; exact h k hk
theorem rlT.up {j : Nat} {o : Option Nat} {v : Int32} (h : rlT tb T) (hv : v = rI o) : rlT (va_up tb j o) (upd T j v) := fun k hk => by
  by_cases hkj : k = j
  · subst hkj; simp [upd, va_up, hv]
  · simp only [upd, va_up, hkj, if_false]; exact h k hk
theorem rlR.mono (h : rlR LV rw LN SZ SM) (hl : ∀ r, LV' r → LV r) : rlR LV' rw LN SZ SM := fun r hr => h r (hl r hr)
theorem rlR.add {fr : Nat} {d : sRw} (h : rlR LV rw LN SZ SM) (hl : ∀ r, LV' r → LV r ∨ r = fr) (h40 : ∀ r, LV r → (rw r).2.1 ≤ 40) (hnew : LN' fr = d.1 ∧ SZ' fr = nI d.2.1 ∧ ∀ j, j < d.2.1 → SM' (40 * fr + j) = sBits d.1 (d.2.2 j)) (hold : ∀ r, r ≠ fr → LN' r = LN r ∧ SZ' r = SZ r ∧ ∀ j, j < 40 → SM' (40 * r + j) = SM (40 * r + j)) : rlR LV' (va_up rw fr d) LN' SZ' SM' := by
  intro r hr lane n f he
  by_cases hrf : r = fr
  · subst hrf
    rw [va_up_self] at he
    subst he
    exact hnew
  · rw [va_up_ne _ _ hrf] at he
    have hLV := (hl r hr).resolve_right hrf
    obtain ⟨e1, e2, e3⟩ := h r hLV _ _ _ he
    obtain ⟨k1, k2, k3⟩ := hold r hrf
    have := h40 r hLV
    rw [he] at this
    have h4 : n ≤ 40 := this
    exact ⟨k1.trans e1, k2.trans e2, fun j hj => (k3 j (by omega)).trans (e3 j hj)⟩
theorem rlN.up {j : Nat} {v : sIn} {SO' KN' PI' ON' PH' : Nat → Int32} {LE' : Nat → UInt64} {nn' : Nat} (h : rlN nn ins SO KN PI ON PH LE) (ho : ∀ i, i < 12 → i ≠ j → SO' i = SO i ∧ (∀ k, k < 4 → KN' (4 * i + k) = KN (4 * i + k)) ∧ PI' i = PI i ∧ ON' i = ON i ∧ PH' i = PH i ∧ LE' i = LE i) (hnn : ∀ i, i ≠ j → (i < nn' → i < nn) ∧ (nn' ≤ i → nn ≤ i))
    (hj : (j < nn' → SO' j = sso v.1) ∧ (∀ k, k < 4 → KN' (4 * j + k) = v.2.1 k) ∧ PI' j = v.2.2.1 ∧ ON' j = v.2.2.2.1 ∧ PH' j = v.2.2.2.2.1 ∧ (nn' ≤ j ∨ v.1 = 0 ∨ v.1 = 1 → LE' j = v.2.2.2.2.2.1)) : rlN nn' (va_up ins j v) SO' KN' PI' ON' PH' LE' := by
  intro i hi ci kf pi on ph le tb he
  by_cases hij : i = j
  · subst hij
    rw [va_up_self] at he
    subst he
    exact hj
  · rw [va_up_ne _ _ hij] at he
    obtain ⟨e1, e2, e3, e4, e5, e6⟩ := h i hi _ _ _ _ _ _ _ he
    obtain ⟨k1, k2, k3, k4, k5, k6⟩ := ho i hi hij
    exact ⟨fun q => k1.trans (e1 ((hnn i hij).1 q)), fun k hk => (k2 k hk).trans (e2 k hk), k3.trans e3, k4.trans e4, k5.trans e5, fun q => k6.trans (e6 (q.imp (hnn i hij).2 id))⟩
theorem upd_o {f : Nat → Int32} {j i : Nat} {v : Int32} (h : i ≠ j) : upd f j v i = f i := by simp [upd, h]
theorem upd_s {f : Nat → Int32} {j : Nat} {v : Int32} : upd f j v j = v := by simp [upd]
theorem vfu_o {α : Type} {f : Nat → α} {j i : Nat} {v : α} (h : i ≠ j) : vf_upd f j v i = f i := by simp [vf_upd, h]
theorem vfu_s {α : Type} {f : Nat → α} {j : Nat} {v : α} : vf_upd f j v j = v := by simp [vf_upd]
theorem tbs_up {j : Nat} {v : sIn} : tbs (va_up ins j v) = va_up (tbs ins) j v.2.2.2.2.2.2 := by
  funext i
  by_cases h : i = j
  · subst h; simp [tbs, va_up]
  · simp [tbs, va_up, h]
theorem tbs_same {j : Nat} {v : sIn} (h : v.2.2.2.2.2.2 = tbs ins j) : tbs (va_up ins j v) = tbs ins := by rw [tbs_up, h]; exact va_up_id rfl
theorem tbs_T {j : Nat} {o : Option Nat} : tbs (insT ins j o) = va_up (tbs ins) j o := tbs_up
end RL
theorem live_up' {nn : Nat} {ins : Nat → sIn} {bk : Nat → Option Nat} {j : Nat} {v : sIn} (hv : v.2.2.2.2.2.2 = (ins j).2.2.2.2.2.2) (r : Nat) (h : live nn (va_up ins j v) bk r) : live nn ins bk r := (live_up hv r).mp h
theorem Inv.tb24 {nn nf : Nat} {ins : Nat → sIn} {fn : Nat → Int32 × Int32} {bk : Nat → Option Nat} {rw : Nat → sRw} {q : Int32 × Int32 × Int32 × Int32 × Int32} (h : Inv (nn, ins, nf, fn, bk, rw, q)) : ∀ k, k < 12 → ∀ r, tbs ins k = some r → r < 24 := by
  intro k hk r hr
  by_cases hkn : k < nn
  · exact h.2.2.2.2.1 r (Or.inr ⟨k, hkn, hr⟩)
  · have := h.2.2.2.1 k (by omega)
    have h2 : tbs ins k = none := by show (ins k).2.2.2.2.2.2 = none; rw [this]
    rw [h2] at hr; cases hr
theorem Inv.n40 {nn nf : Nat} {ins : Nat → sIn} {fn : Nat → Int32 × Int32} {bk : Nat → Option Nat} {rw : Nat → sRw} {q : Int32 × Int32 × Int32 × Int32 × Int32} (h : Inv (nn, ins, nf, fn, bk, rw, q)) : ∀ r, live nn ins bk r → (rw r).2.1 ≤ 40 := fun r hr => (h.2.2.2.2.2.1 r hr _ _ _ rfl).1
