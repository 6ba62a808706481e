theorem insK_cast {ci : Nat} (h : insK ci) {E : mEnv} {s : State} (hE : mE E s) : ∃ r : vw_C, vwCl[ci]? = some r ∧ va_Nw (.castable r.1 "CallWays2$Instrument") s := by
  rcases h with rfl | rfl | rfl | rfl | rfl
  · exact ⟨_, rfl, hE.2.1 (RX0, "CallWays2$Instrument") (by decide)⟩
  · exact ⟨_, rfl, hE.2.1 (RX2, "CallWays2$Instrument") (by decide)⟩
  · exact ⟨_, rfl, hE.2.1 (RX4, "CallWays2$Instrument") (by decide)⟩
  · exact ⟨_, rfl, hE.2.1 (RX6, "CallWays2$Instrument") (by decide)⟩
  · exact ⟨_, rfl, hE.2.1 (RX8, "CallWays2$Instrument") (by decide)⟩
theorem insK_sci (s : Int32) : insK (sci s) := by
  unfold sci insK
  split
  · decide
  · split
    · decide
    · split
      · decide
      · split <;> decide
abbrev vS (s : Int32) : Prop := ¬ s < 0 ∧ s ≤ 4
def aInst (σ : Sg) (s : Int32) : Int32 := match σ with | (nn, _) => if vS s then (if nn < 12 then nI nn else -2) else -1
def nInst (σ : Sg) (s : Int32) : Sg := match σ with | (nn, ins, nf, fn, bk, rw, bd, st, c2, c3, c4) => if vS s ∧ nn < 12 then (nn + 1, va_up ins nn (sci s, (fun _ => 0), 0, 0, 0, 0, none), nf, fn, bk, rw, bd, st, c2, c3, c4) else (nn, ins, nf, fn, bk, rw, bd, st, c2, c3, c4)
abbrev vF (s : Int32) : Prop := ¬ s < 0 ∧ s ≤ 5
def aFunc (σ : Sg) (s a : Int32) : Int32 := match σ with | (_, _, nf, _) => if vF s then (if nf < 8 then nI nf else -2) else -1
def nFunc (σ : Sg) (s a : Int32) : Sg := match σ with | (nn, ins, nf, fn, bk, rw, bd, st, c2, c3, c4) => if vF s ∧ nf < 8 then (nn, ins, nf + 1, va_up fn nf (s, a), bk, rw, bd, st, c2, c3, c4) else (nn, ins, nf, fn, bk, rw, bd, st, c2, c3, c4)
abbrev vBl (b l n : Int32) : Prop := vB b ∧ vL l ∧ n ≤ 40
def aBlock (σ : Sg) (b l n : Int32) : Int32 := if vBl b l n then (if n < 0 then -8 else 1) else -1
def nBlock (σ : Sg) (b l n : Int32) : Sg := match σ with | (nn, ins, nf, fn, bk, rw, bd, st, c2, c3, c4) => if vBl b l n ∧ ¬ n < 0 then (nn, ins, nf, fn, va_up bk b.toNatClampNeg (some (fresh (va_up bk b.toNatClampNeg none) (tbs ins))), va_up rw (fresh (va_up bk b.toNatClampNeg none) (tbs ins)) (l, n.toNatClampNeg, (fun _ => 0)), bd, st, c2, c3, c4) else (nn, ins, nf, fn, bk, rw, bd, st, c2, c3, c4)
def aLend (σ : Sg) (b fr o : Int32) : Int32 := match σ with | (_, _, _, _, bk, _) => if vB b ∧ vB fr then (if bk fr.toNatClampNeg = none ∧ o = 0 then -5 else 1) else -1
def nLend (σ : Sg) (b fr o : Int32) : Sg := match σ with | (nn, ins, nf, fn, bk, rw, bd, st, c2, c3, c4) => if vB b ∧ vB fr then (if o = 0 then (match bk fr.toNatClampNeg with | none => (nn, ins, nf, fn, bk, rw, bd, st, c2, c3, c4) | some r => (nn, ins, nf, fn, va_up bk b.toNatClampNeg (some (fresh bk (tbs ins))), va_up rw (fresh bk (tbs ins)) (rw r), bd, st, c2, c3, c4)) else (nn, ins, nf, fn, va_up bk b.toNatClampNeg (bk fr.toNatClampNeg), rw, bd, st, c2, c3, c4)) else (nn, ins, nf, fn, bk, rw, bd, st, c2, c3, c4)
theorem mUp_3 {M : mMem} {z a v : Nat} {e1 e2 e3 e4 : va_E} (h1 : z ≠ v) (h2 : z ≠ a) : mUp (mUp (mUp (mUp M z e1) v e2) a e3) z e4 = mUp (mUp (mUp M v e2) a e3) z e4 := by
  funext q
  by_cases hz : q = z
  · simp [mUp, hz]
  · simp [mUp, hz]
theorem mUp_no {M : mMem} {z a : Nat} {e : va_E} (h : M a = none) (hz : z ≠ a) : mUp M z e a = none := by rw [mUp_ne (Ne.symm hz)]; exact h
theorem hO_up {NO : Nat → Prop} {M : mMem} {z : Nat} {e : va_E} (h : ∀ q, NO q → M q ≠ none) : ∀ q, NO q → mUp M z e q ≠ none := by
  intro q hq
  by_cases hz : q = z
  · subst hz
    rw [mUp_self]
    exact fun k => by cases k
  · rw [mUp_ne hz]
    exact h q hq
theorem va_up_twice {α : Type} (f : Nat → α) (k : Nat) (v w : α) : va_up (va_up f k v) k w = va_up f k w := bx_uu f k v w
theorem in_X9_instrument_X9 : ∀ w ∈ wsX90, w ∈ wsX9_instrument := by decide +kernel
set_option maxHeartbeats 4000000 in
set_option maxRecDepth 100000 in
theorem c_X9_instrument (l : Launch) (E : mEnv) (M : mMem) (sz : Nat) (NO : Nat → Prop) (x nn nf : Nat) (ins : Nat → sIn) (fn : Nat → Int32 × Int32) (bk : Nat → Option Nat) (rw : Nat → sRw) (bd st c2 c3 c4 : Int32) (hV : Inv (nn, ins, nf, fn, bk, rw, bd, st, c2, c3, c4)) (hC : cRep E M NO x (nn, ins, nf, fn, bk, rw, bd, st, c2, c3, c4)) (hO : ∀ q, NO q → M q ≠ none) (sort : Int32)    : Met l yX9_instrument wsX9_instrument ({ frames := 5, cells := 2, slots := 11, locals := 92 }) (mPre E M sz [.ref x, .int sort]) (mQi E M sz (fun r u => r = aInst (nn, ins, nf, fn, bk, rw, bd, st, c2, c3, c4) sort ∧ cRep E u NO x (nInst (nn, ins, nf, fn, bk, rw, bd, st, c2, c3, c4) sort) ∧ kept NO M u)) (2) (11) (mA M sz) := by
  refine m_met [.ref x, .int sort] (by decide) rfl (Nat.le_of_ble_eq_true rfl) ?_
  intro p e s m below meth c ls H eH hx hb hr hts hown hlocks hnm hml hsz hE hM hS hA hl
  have hl : lv_has ls 2 [(0, .ref x), (1, .int sort)] := hl
  obtain ⟨a1, a2, a3, a4, fi, fb, ff, wt, ia, ib, fa, ra, rb, fl, LV, hC⟩ := hC
  have hC0 := hC.rep
  have hiK := hV.insK
  obtain ⟨hnn, hnf, hvI, hvD, hv24, hvR, hvF⟩ := id hV
  obtain ⟨⟨g_x, g_a1, g_a2, g_a3, g_a4⟩, hI, hF, hB, hL, hR, hJ, hN⟩ := id hC
  obtain ⟨⟨nx, n1, n2, n3, n4⟩, nI0, nF0, nR0⟩ := id hN
  have g_a20 := g_a2
  refine lv_iload_n hx hb dX9_instrument_0 rfl (lv_at hl 1 rfl) ?_
  refine lv_if_lt (tgt := 9) hx hb dX9_instrument_1 (by decide) (fun c_1 => ?_) (fun c_1 => ?_)
  · skip
    have hz : ¬ vS sort := na1 (not_not_intro c_1)
    refine lv_iconst (v := -1) hx hb dX9_instrument_9 (by decide) ?_
    exact m_iret hx hb hr hlocks hM hS (by show 0 ≤ 2; omega) (by show 0 ≤ 11; omega) dX9_instrument_10 (by exact ⟨(if_neg hz).symm, (by show cRep E _ NO x (if vS sort ∧ nn < 12 then _ else _); rw [if_neg (na1 hz)]; exact hC0), kept.rf⟩)
  · skip
    refine lv_iload_n hx hb dX9_instrument_4 rfl (lv_at hl 1 rfl) ?_
    refine lv_iconst (v := 4) hx hb dX9_instrument_5 (by decide) ?_
    refine lv_icmp_le (tgt := 11) hx hb dX9_instrument_6 (by decide) (fun c_6 => ?_) (fun c_6 => ?_)
    · skip
      have hs : vS sort := ⟨c_1, c_6⟩
      refine lv_aload_n hx hb dX9_instrument_11 rfl (lv_at hl 0 rfl) ?_
      refine m_get (ci := 7) (v := .int (nI nn)) (C := RX9) (T := TX9) (N := 11) hx hb hts in_X9_instrument_X9 hown hE hM g_x rfl 4 (by decide) (hts (.fieldLink RX9 35 "CallWays2" "instrumentCount" "I") (by decide +kernel)) (fun _ h9 => h9) rfl dX9_instrument_12 ?_
      refine lv_bipush (v := 12) hx hb dX9_instrument_15 (by decide) ?_
      refine lv_icmp_lt (tgt := 23) hx hb dX9_instrument_17 (by decide) (fun c_17 => ?_) (fun c_17 => ?_)
      · skip
        rw [show (12 : Int32) = nI 12 from rfl, nI_ltI (by omega) (by decide)] at c_17
        refine lv_aload_n hx hb dX9_instrument_23 rfl (lv_at hl 0 rfl) ?_
        refine m_get (ci := 7) (v := .ref a1) (C := RX9) (T := TX9) (N := 11) hx hb hts in_X9_instrument_X9 hown hE hM g_x rfl 0 (by decide) (hts (.fieldLink RX9 11 "CallWays2" "instruments" "[LCallWays2$Instrument;") (by decide +kernel)) (fun _ h9 => h9) rfl dX9_instrument_24 ?_
        refine lv_aload_n hx hb dX9_instrument_27 rfl (lv_at hl 0 rfl) ?_
        refine m_get (ci := 7) (v := .int (nI nn)) (C := RX9) (T := TX9) (N := 11) hx hb hts in_X9_instrument_X9 hown hE hM g_x rfl 4 (by decide) (hts (.fieldLink RX9 35 "CallWays2" "instrumentCount" "I") (by decide +kernel)) (fun _ h9 => h9) rfl dX9_instrument_28 ?_
        refine lv_iload_n hx hb dX9_instrument_31 rfl (lv_at hl 1 rfl) ?_
        refine m_callq (va_runS (As := [.int sort]) (rest := [.int (nI nn), .ref a1]) ⟨hx, hb, hml, hown, hts⟩ (c_X9_newInstrument l E M H.size sort) (va_cwS 1 hts gX9_instrument_X9_newInstrument rfl rfl rfl (by decide +kernel) ⟨Nat.le_of_ble_eq_true rfl, Nat.le_of_ble_eq_true rfl⟩) (m_preS hE hM) rfl rfl hl.1 rfl (lv_room (Nat.le_of_ble_eq_true rfl)) dX9_instrument_32 ⟨(by show 0 + 2 ≤ 2; omega), (by show 0 + 11 ≤ 11; omega)⟩) hM hS hA (fun r1 M1 H locs hw hM hS => ?_)
        obtain ⟨ci, a, q, e_r1, eci, na, nq, naq, eM1⟩ := hw
        subst e_r1
        replace g_x : M1 x = some (mO 7 [.ref a1, .ref a2, .ref a3, .ref a4, .int (nI nn), .int (nI nf), .int bd, .int st, .int c2, .int c3, .int c4]) := by rw [eM1]; exact mUp_at (m_neN g_x na) (mUp_at (m_neN g_x nq) g_x)
        replace g_a1 : M1 a1 = some (mQ E 4 12 fi) := by rw [eM1]; exact mUp_at (m_neN g_a1 na) (mUp_at (m_neN g_a1 nq) g_a1)
        replace g_a2 : M1 a2 = some (mQ E 5 10 fb) := by rw [eM1]; exact mUp_at (m_neN g_a2 na) (mUp_at (m_neN g_a2 nq) g_a2)
        replace g_a3 : M1 a3 = some (mQ E 6 8 ff) := by rw [eM1]; exact mUp_at (m_neN g_a3 na) (mUp_at (m_neN g_a3 nq) g_a3)
        replace g_a4 : M1 a4 = some (mDb E 40 wt) := by rw [eM1]; exact mUp_at (m_neN g_a4 na) (mUp_at (m_neN g_a4 nq) g_a4)
        have g_a : M1 a = some (mO ci [.ref q, .int 0, .int 0, .int 0, .double 0, .null, .int 0]) := by rw [eM1]; exact mUp_self _ _ _
        have hci : insK ci := by rw [eci]; exact insK_sci sort
        obtain ⟨rc, hrc, hca⟩ := insK_cast hci hE
        refine W.eq (g2 := F0 m 35 ls [.ref a, .int (nI nn), .ref a1]) rfl ?_
        refine m_qastO (B := "CallWays2$Instrument") hx hb hE hM hS 4 g_a1 rfl (r := rc) hca g_a hrc (vp_in_nI c_17 (by decide)) dX9_instrument_35 (fun H locs hM hS => ?_)
        have hM : mOK E.1 (mA M sz) (mUp M1 a1 (mQ E 4 12 (va_up fi (nI nn).toNatClampNeg (some a)))) H := hM
        obtain ⟨M2, eM2⟩ : ∃ z, z = mUp M1 a1 (mQ E 4 12 (va_up fi (nI nn).toNatClampNeg (some a))) := ⟨_, rfl⟩
        rw [← eM2] at hM
        have g_x_ : M2 x = some (mO 7 [.ref a1, .ref a2, .ref a3, .ref a4, .int (nI nn), .int (nI nf), .int bd, .int st, .int c2, .int c3, .int c4]) := by rw [eM2]; exact mUp_at (m_ne g_x g_a1 (by simp)) g_x
        have g_a2_ : M2 a2 = some (mQ E 5 10 fb) := by rw [eM2]; exact mUp_at (m_ne g_a2 g_a1 (by simp)) g_a2
        have g_a3_ : M2 a3 = some (mQ E 6 8 ff) := by rw [eM2]; exact mUp_at (m_ne g_a3 g_a1 (by simp)) g_a3
        have g_a4_ : M2 a4 = some (mDb E 40 wt) := by rw [eM2]; exact mUp_at (m_ne g_a4 g_a1 (by simp)) g_a4
        have g_a_ : M2 a = some (mO ci [.ref q, .int 0, .int 0, .int 0, .double 0, .null, .int 0]) := by rw [eM2]; exact mUp_at (m_ne g_a g_a1 (by simp)) g_a
        have g_x := g_x_
        have g_a2 := g_a2_
        have g_a3 := g_a3_
        have g_a4 := g_a4_
        have g_a := g_a_
        have g_a1 : M2 a1 = some (mQ E 4 12 (va_up fi (nI nn).toNatClampNeg (some a))) := by rw [eM2]; exact mUp_self _ _ _
        refine lv_aload_n hx hb dX9_instrument_36 rfl (lv_at hl 0 rfl) ?_
        refine lv_dup hx hb dX9_instrument_37 rfl ?_
        refine m_get (ci := 7) (v := .int (nI nn)) (C := RX9) (T := TX9) (N := 11) hx hb hts in_X9_instrument_X9 hown hE hM g_x rfl 4 (by decide) (hts (.fieldLink RX9 35 "CallWays2" "instrumentCount" "I") (by decide +kernel)) (fun _ h9 => h9) rfl dX9_instrument_38 ?_
        refine lv_iconst (v := 1) hx hb dX9_instrument_41 (by decide) ?_
        refine lv_iadd hx hb dX9_instrument_42 ?_
        refine m_put (ci := 7) (v := .int ((nI nn) + 1)) (ty := .int) (C := RX9) (T := TX9) (N := 11) hx hb hts in_X9_instrument_X9 tyX9 tyX9_ok nmX9 hown hE hM hS g_x rfl 4 (by decide) (hts (.fieldLink RX9 35 "CallWays2" "instrumentCount" "I") (by decide +kernel)) (fun _ h9 => h9) rfl (by decide +kernel) rfl rfl (Nat.le_of_ble_eq_true rfl) dX9_instrument_43 (fun H locs hM hS => ?_)
        have hM : mOK E.1 (mA M sz) (mUp M2 x (mO 7 [.ref a1, .ref a2, .ref a3, .ref a4, .int ((nI nn) + 1), .int (nI nf), .int bd, .int st, .int c2, .int c3, .int c4])) H := hM
        obtain ⟨M3, eM3⟩ : ∃ z, z = mUp M2 x (mO 7 [.ref a1, .ref a2, .ref a3, .ref a4, .int ((nI nn) + 1), .int (nI nf), .int bd, .int st, .int c2, .int c3, .int c4]) := ⟨_, rfl⟩
        rw [← eM3] at hM
        have g_a1_ : M3 a1 = some (mQ E 4 12 (va_up fi (nI nn).toNatClampNeg (some a))) := by rw [eM3]; exact mUp_at (m_ne g_a1 g_x (by simp)) g_a1
        have g_a2_ : M3 a2 = some (mQ E 5 10 fb) := by rw [eM3]; exact mUp_at (m_ne g_a2 g_x (by simp)) g_a2
        have g_a3_ : M3 a3 = some (mQ E 6 8 ff) := by rw [eM3]; exact mUp_at (m_ne g_a3 g_x (by simp)) g_a3
        have g_a4_ : M3 a4 = some (mDb E 40 wt) := by rw [eM3]; exact mUp_at (m_ne g_a4 g_x (by simp)) g_a4
        have g_a_ : M3 a = some (mO ci [.ref q, .int 0, .int 0, .int 0, .double 0, .null, .int 0]) := by rw [eM3]; exact mUp_at (m_ne g_a g_x (by simp)) g_a
        have g_a1 := g_a1_
        have g_a2 := g_a2_
        have g_a3 := g_a3_
        have g_a4 := g_a4_
        have g_a := g_a_
        have g_x : M3 x = some (mO 7 [.ref a1, .ref a2, .ref a3, .ref a4, .int ((nI nn) + 1), .int (nI nf), .int bd, .int st, .int c2, .int c3, .int c4]) := by rw [eM3]; exact mUp_self _ _ _
        refine lv_aload_n hx hb dX9_instrument_46 rfl (lv_at hl 0 rfl) ?_
        refine m_get (ci := 7) (v := .int ((nI nn) + 1)) (C := RX9) (T := TX9) (N := 11) hx hb hts in_X9_instrument_X9 hown hE hM g_x rfl 4 (by decide) (hts (.fieldLink RX9 35 "CallWays2" "instrumentCount" "I") (by decide +kernel)) (fun _ h9 => h9) rfl dX9_instrument_47 ?_
        refine lv_iconst (v := 1) hx hb dX9_instrument_50 (by decide) ?_
        refine lv_isub hx hb dX9_instrument_51 ?_
        exact m_iret hx hb hr hlocks hM hS (by show 0 + 2 ≤ 2; omega) (by show 0 + 11 ≤ 11; omega) dX9_instrument_52 (by have hcl : (nI nn).toNatClampNeg = nn := nI_clamp (by omega); exact ⟨(by show _ = (if vS sort then (if nn < 12 then _ else _) else _); rw [if_pos hs, if_pos c_17, nI_1, nI_pred]), (by show cRep E _ NO x (if vS sort ∧ nn < 12 then _ else _); rw [if_pos ⟨hs, c_17⟩, eM3, eM2, eM1, hcl, nI_1, ← eci]; exact (hC.addI hiK na nq naq hO).rep), (by rw [eM3, eM2, eM1]; exact (((kept.rf.up (fun z => hO q z nq)).up (fun z => hO a z na)).up n1).up nx)⟩)
      · skip
        rw [show (12 : Int32) = nI 12 from rfl, nI_ltI (by omega) (by decide)] at c_17
        refine lv_bipush (v := -2) hx hb dX9_instrument_20 (by decide) ?_
        exact m_iret hx hb hr hlocks hM hS (by show 0 ≤ 2; omega) (by show 0 ≤ 11; omega) dX9_instrument_22 (by exact ⟨(by show _ = (if vS sort then (if nn < 12 then _ else _) else _); rw [if_pos hs, if_neg c_17]), (by show cRep E _ NO x (if vS sort ∧ nn < 12 then _ else _); rw [if_neg (na2 c_17)]; exact hC0), kept.rf⟩)
    · skip
      have hz : ¬ vS sort := na2 c_6
      refine lv_iconst (v := -1) hx hb dX9_instrument_9 (by decide) ?_
      exact m_iret hx hb hr hlocks hM hS (by show 0 ≤ 2; omega) (by show 0 ≤ 11; omega) dX9_instrument_10 (by exact ⟨(if_neg hz).symm, (by show cRep E _ NO x (if vS sort ∧ nn < 12 then _ else _); rw [if_neg (na1 hz)]; exact hC0), kept.rf⟩)
theorem in_X9_function_X3 : ∀ w ∈ wsX30, w ∈ wsX9_function := by decide +kernel
theorem in_X9_function_X9 : ∀ w ∈ wsX90, w ∈ wsX9_function := by decide +kernel
set_option maxHeartbeats 4000000 in
set_option maxRecDepth 100000 in
theorem c_X9_function (l : Launch) (E : mEnv) (M : mMem) (sz : Nat) (NO : Nat → Prop) (x nn nf : Nat) (ins : Nat → sIn) (fn : Nat → Int32 × Int32) (bk : Nat → Option Nat) (rw : Nat → sRw) (bd st c2 c3 c4 : Int32) (hV : Inv (nn, ins, nf, fn, bk, rw, bd, st, c2, c3, c4)) (hC : cRep E M NO x (nn, ins, nf, fn, bk, rw, bd, st, c2, c3, c4)) (hO : ∀ q, NO q → M q ≠ none) (kd av : Int32)    : Met l yX9_function wsX9_function ({ frames := 2, cells := 1, slots := 2, locals := 34 }) (mPre E M sz [.ref x, .int kd, .int av]) (mQi E M sz (fun r u => r = aFunc (nn, ins, nf, fn, bk, rw, bd, st, c2, c3, c4) kd av ∧ cRep E u NO x (nFunc (nn, ins, nf, fn, bk, rw, bd, st, c2, c3, c4) kd av) ∧ kept NO M u)) (1) (2) (mA M sz) := by
  refine m_met [.ref x, .int kd, .int av] (by decide) rfl (Nat.le_of_ble_eq_true rfl) ?_
  intro p e s m below meth c ls H eH hx hb hr hts hown hlocks hnm hml hsz hE hM hS hA hl
  have hl : lv_has ls 3 [(0, .ref x), (1, .int kd), (2, .int av)] := hl
  obtain ⟨a1, a2, a3, a4, fi, fb, ff, wt, ia, ib, fa, ra, rb, fl, LV, hC⟩ := hC
  have hC0 := hC.rep
  have hiK := hV.insK
  obtain ⟨hnn, hnf, hvI, hvD, hv24, hvR, hvF⟩ := id hV
  obtain ⟨⟨g_x, g_a1, g_a2, g_a3, g_a4⟩, hI, hF, hB, hL, hR, hJ, hN⟩ := id hC
  obtain ⟨⟨nx, n1, n2, n3, n4⟩, nI0, nF0, nR0⟩ := id hN
  have g_a20 := g_a2
  refine lv_iload_n hx hb dX9_function_0 rfl (lv_at hl 1 rfl) ?_
  refine lv_if_lt (tgt := 9) hx hb dX9_function_1 (by decide) (fun c_1 => ?_) (fun c_1 => ?_)
  · skip
    have hz : ¬ vF kd := na1 (not_not_intro c_1)
    refine lv_iconst (v := -1) hx hb dX9_function_9 (by decide) ?_
    exact m_iret hx hb hr hlocks hM hS (by show 0 ≤ 1; omega) (by show 0 ≤ 2; omega) dX9_function_10 (by exact ⟨(if_neg hz).symm, (by show cRep E _ NO x (if vF kd ∧ nf < 8 then _ else _); rw [if_neg (na1 hz)]; exact hC0), kept.rf⟩)
  · skip
    refine lv_iload_n hx hb dX9_function_4 rfl (lv_at hl 1 rfl) ?_
    refine lv_iconst (v := 5) hx hb dX9_function_5 (by decide) ?_
    refine lv_icmp_le (tgt := 11) hx hb dX9_function_6 (by decide) (fun c_6 => ?_) (fun c_6 => ?_)
    · skip
      have hs : vF kd := ⟨c_1, c_6⟩
      refine lv_aload_n hx hb dX9_function_11 rfl (lv_at hl 0 rfl) ?_
      refine m_get (ci := 7) (v := .int (nI nf)) (C := RX9) (T := TX9) (N := 11) hx hb hts in_X9_function_X9 hown hE hM g_x rfl 5 (by decide) (hts (.fieldLink RX9 113 "CallWays2" "functionCount" "I") (by decide +kernel)) (fun _ h9 => h9) rfl dX9_function_12 ?_
      refine lv_bipush (v := 8) hx hb dX9_function_15 (by decide) ?_
      refine lv_icmp_lt (tgt := 23) hx hb dX9_function_17 (by decide) (fun c_17 => ?_) (fun c_17 => ?_)
      · skip
        rw [show (8 : Int32) = nI 8 from rfl, nI_ltI (by omega) (by decide)] at c_17
        refine lv_aload_n hx hb dX9_function_23 rfl (lv_at hl 0 rfl) ?_
        refine m_get (ci := 7) (v := .ref a3) (C := RX9) (T := TX9) (N := 11) hx hb hts in_X9_function_X9 hown hE hM g_x rfl 2 (by decide) (hts (.fieldLink RX9 23 "CallWays2" "functions" "[LCallWays2$Function;") (by decide +kernel)) (fun _ h9 => h9) rfl dX9_function_24 ?_
        refine lv_aload_n hx hb dX9_function_27 rfl (lv_at hl 0 rfl) ?_
        refine m_get (ci := 7) (v := .int (nI nf)) (C := RX9) (T := TX9) (N := 11) hx hb hts in_X9_function_X9 hown hE hM g_x rfl 5 (by decide) (hts (.fieldLink RX9 113 "CallWays2" "functionCount" "I") (by decide +kernel)) (fun _ h9 => h9) rfl dX9_function_28 ?_
        refine m_new (ci := 2) (fs := [.int 0, .double 0]) (C := RX3) (T := TX3) (N := 2) hx hb hts in_X9_function_X3 tyX3 tyX3_ok hown (hts (.classLink RX9 21 RX3) (by decide +kernel)) (hts (.instantiable RX3 2) (by decide +kernel)) (hts (.initialized RX3) (by decide +kernel)) hE hM hS hA rfl (fun j hj => by rcases (show j = 0 ∨ j = 1 by omega) with rfl | rfl <;> rfl) (by show 0 + 1 ≤ 1; omega) (by show 0 + 2 ≤ 2; omega) dX9_function_31 (fun a H n_a hM hS => ?_)
        have hM : mOK E.1 (mA M sz) (mUp M a (mO 2 [.int 0, .double 0])) H := hM
        obtain ⟨M1, eM1⟩ : ∃ z, z = mUp M a (mO 2 [.int 0, .double 0]) := ⟨_, rfl⟩
        rw [← eM1] at hM
        have g_x : M1 x = some (mO 7 [.ref a1, .ref a2, .ref a3, .ref a4, .int (nI nn), .int (nI nf), .int bd, .int st, .int c2, .int c3, .int c4]) := by rw [eM1]; exact mUp_at (m_neN g_x n_a) g_x
        have g_a1 : M1 a1 = some (mQ E 4 12 fi) := by rw [eM1]; exact mUp_at (m_neN g_a1 n_a) g_a1
        have g_a2 : M1 a2 = some (mQ E 5 10 fb) := by rw [eM1]; exact mUp_at (m_neN g_a2 n_a) g_a2
        have g_a3 : M1 a3 = some (mQ E 6 8 ff) := by rw [eM1]; exact mUp_at (m_neN g_a3 n_a) g_a3
        have g_a4 : M1 a4 = some (mDb E 40 wt) := by rw [eM1]; exact mUp_at (m_neN g_a4 n_a) g_a4
        have g_a : M1 a = some (mO 2 [.int 0, .double 0]) := by rw [eM1]; exact mUp_self _ _ _
        refine lv_dup hx hb dX9_function_34 rfl ?_
        refine lv_iload_n hx hb dX9_function_35 rfl (lv_at hl 1 rfl) ?_
        refine lv_iload_n hx hb dX9_function_36 rfl (lv_at hl 2 rfl) ?_
        refine m_callv (va_runI (As := [.int kd, .int av]) (rest := [.ref a, .int (nI nf), .ref a3]) ⟨hx, hb, hml, hown, hts⟩ (c_X3_init l E M1 H.size a kd av g_a) (cwI 2 hts gX9_function_X3_init rfl rfl rfl (hts (.initialized RX3) (by decide +kernel)) (hts (.methodLink RX9 116 yX3_init) (by decide +kernel)) (hts (.instanceMethod yX3_init) (by decide +kernel)) rfl (by decide +kernel) ⟨Nat.le_of_ble_eq_true rfl, Nat.le_of_ble_eq_true rfl⟩) (m_preI hE hM) rfl rfl hl.1 rfl (lv_room (Nat.le_of_ble_eq_true rfl)) dX9_function_37 ⟨(by show 0 + 1 + 0 ≤ 1; omega), (by show 0 + 2 + 0 ≤ 2; omega)⟩) hM hS hA (fun M3 H locs hw hM hS => ?_)
        have eM3 := hw
        have g_x_ : M3 x = some (mO 7 [.ref a1, .ref a2, .ref a3, .ref a4, .int (nI nn), .int (nI nf), .int bd, .int st, .int c2, .int c3, .int c4]) := by rw [eM3]; exact mUp_at (m_ne g_x g_a (by simp)) g_x
        have g_a1_ : M3 a1 = some (mQ E 4 12 fi) := by rw [eM3]; exact mUp_at (m_ne g_a1 g_a (by simp)) g_a1
        have g_a2_ : M3 a2 = some (mQ E 5 10 fb) := by rw [eM3]; exact mUp_at (m_ne g_a2 g_a (by simp)) g_a2
        have g_a3_ : M3 a3 = some (mQ E 6 8 ff) := by rw [eM3]; exact mUp_at (m_ne g_a3 g_a (by simp)) g_a3
        have g_a4_ : M3 a4 = some (mDb E 40 wt) := by rw [eM3]; exact mUp_at (m_ne g_a4 g_a (by simp)) g_a4
        have g_x := g_x_
        have g_a1 := g_a1_
        have g_a2 := g_a2_
        have g_a3 := g_a3_
        have g_a4 := g_a4_
        have g_a : M3 a = some (mO 2 [.int kd, .double (FP.i2d av)]) := by rw [eM3]; exact mUp_self _ _ _
        refine m_qast hx hb hE hM hS 6 g_a3 rfl g_a rfl (vp_in_nI c_17 (by decide)) dX9_function_40 (fun H locs hM hS => ?_)
        have hM : mOK E.1 (mA M sz) (mUp M3 a3 (mQ E 6 8 (va_up ff (nI nf).toNatClampNeg (some a)))) H := hM
        obtain ⟨M4, eM4⟩ : ∃ z, z = mUp M3 a3 (mQ E 6 8 (va_up ff (nI nf).toNatClampNeg (some a))) := ⟨_, rfl⟩
        rw [← eM4] at hM
        have g_x_ : M4 x = some (mO 7 [.ref a1, .ref a2, .ref a3, .ref a4, .int (nI nn), .int (nI nf), .int bd, .int st, .int c2, .int c3, .int c4]) := by rw [eM4]; exact mUp_at (m_ne g_x g_a3 (by simp)) g_x
        have g_a1_ : M4 a1 = some (mQ E 4 12 fi) := by rw [eM4]; exact mUp_at (m_ne g_a1 g_a3 (by simp)) g_a1
        have g_a2_ : M4 a2 = some (mQ E 5 10 fb) := by rw [eM4]; exact mUp_at (m_ne g_a2 g_a3 (by simp)) g_a2
        have g_a4_ : M4 a4 = some (mDb E 40 wt) := by rw [eM4]; exact mUp_at (m_ne g_a4 g_a3 (by simp)) g_a4
        have g_a_ : M4 a = some (mO 2 [.int kd, .double (FP.i2d av)]) := by rw [eM4]; exact mUp_at (m_ne g_a g_a3 (by simp)) g_a
        have g_x := g_x_
        have g_a1 := g_a1_
        have g_a2 := g_a2_
        have g_a4 := g_a4_
        have g_a := g_a_
        have g_a3 : M4 a3 = some (mQ E 6 8 (va_up ff (nI nf).toNatClampNeg (some a))) := by rw [eM4]; exact mUp_self _ _ _
        refine lv_aload_n hx hb dX9_function_41 rfl (lv_at hl 0 rfl) ?_
        refine lv_dup hx hb dX9_function_42 rfl ?_
        refine m_get (ci := 7) (v := .int (nI nf)) (C := RX9) (T := TX9) (N := 11) hx hb hts in_X9_function_X9 hown hE hM g_x rfl 5 (by decide) (hts (.fieldLink RX9 113 "CallWays2" "functionCount" "I") (by decide +kernel)) (fun _ h9 => h9) rfl dX9_function_43 ?_
        refine lv_iconst (v := 1) hx hb dX9_function_46 (by decide) ?_
        refine lv_iadd hx hb dX9_function_47 ?_
        refine m_put (ci := 7) (v := .int ((nI nf) + 1)) (ty := .int) (C := RX9) (T := TX9) (N := 11) hx hb hts in_X9_function_X9 tyX9 tyX9_ok nmX9 hown hE hM hS g_x rfl 5 (by decide) (hts (.fieldLink RX9 113 "CallWays2" "functionCount" "I") (by decide +kernel)) (fun _ h9 => h9) rfl (by decide +kernel) rfl rfl (Nat.le_of_ble_eq_true rfl) dX9_function_48 (fun H locs hM hS => ?_)
        have hM : mOK E.1 (mA M sz) (mUp M4 x (mO 7 [.ref a1, .ref a2, .ref a3, .ref a4, .int (nI nn), .int ((nI nf) + 1), .int bd, .int st, .int c2, .int c3, .int c4])) H := hM
        obtain ⟨M5, eM5⟩ : ∃ z, z = mUp M4 x (mO 7 [.ref a1, .ref a2, .ref a3, .ref a4, .int (nI nn), .int ((nI nf) + 1), .int bd, .int st, .int c2, .int c3, .int c4]) := ⟨_, rfl⟩
        rw [← eM5] at hM
        have g_a1_ : M5 a1 = some (mQ E 4 12 fi) := by rw [eM5]; exact mUp_at (m_ne g_a1 g_x (by simp)) g_a1
        have g_a2_ : M5 a2 = some (mQ E 5 10 fb) := by rw [eM5]; exact mUp_at (m_ne g_a2 g_x (by simp)) g_a2
        have g_a3_ : M5 a3 = some (mQ E 6 8 (va_up ff (nI nf).toNatClampNeg (some a))) := by rw [eM5]; exact mUp_at (m_ne g_a3 g_x (by simp)) g_a3
        have g_a4_ : M5 a4 = some (mDb E 40 wt) := by rw [eM5]; exact mUp_at (m_ne g_a4 g_x (by simp)) g_a4
        have g_a_ : M5 a = some (mO 2 [.int kd, .double (FP.i2d av)]) := by rw [eM5]; exact mUp_at (m_ne g_a g_x (by simp)) g_a
        have g_a1 := g_a1_
        have g_a2 := g_a2_
        have g_a3 := g_a3_
        have g_a4 := g_a4_
        have g_a := g_a_
        have g_x : M5 x = some (mO 7 [.ref a1, .ref a2, .ref a3, .ref a4, .int (nI nn), .int ((nI nf) + 1), .int bd, .int st, .int c2, .int c3, .int c4]) := by rw [eM5]; exact mUp_self _ _ _
        refine lv_aload_n hx hb dX9_function_51 rfl (lv_at hl 0 rfl) ?_
        refine m_get (ci := 7) (v := .int ((nI nf) + 1)) (C := RX9) (T := TX9) (N := 11) hx hb hts in_X9_function_X9 hown hE hM g_x rfl 5 (by decide) (hts (.fieldLink RX9 113 "CallWays2" "functionCount" "I") (by decide +kernel)) (fun _ h9 => h9) rfl dX9_function_52 ?_
        refine lv_iconst (v := 1) hx hb dX9_function_55 (by decide) ?_
        refine lv_isub hx hb dX9_function_56 ?_
        exact m_iret hx hb hr hlocks hM hS (by show 0 + 1 + 0 ≤ 1; omega) (by show 0 + 2 + 0 ≤ 2; omega) dX9_function_57 (by have hcl : (nI nf).toNatClampNeg = nf := nI_clamp (by omega); exact ⟨(by show _ = (if vF kd then (if nf < 8 then _ else _) else _); rw [if_pos hs, if_pos c_17, nI_1, nI_pred]), (by show cRep E _ NO x (if vF kd ∧ nf < 8 then _ else _); rw [if_pos ⟨hs, c_17⟩, eM5, eM4, eM3, eM1, hcl, nI_1, mUp_up]; exact (hC.addF hiK n_a hO).rep), (by rw [eM5, eM4, eM3, eM1, mUp_up]; exact ((kept.rf.up (fun z => hO a z n_a)).up n3).up nx)⟩)
      · skip
        rw [show (8 : Int32) = nI 8 from rfl, nI_ltI (by omega) (by decide)] at c_17
        refine lv_bipush (v := -2) hx hb dX9_function_20 (by decide) ?_
        exact m_iret hx hb hr hlocks hM hS (by show 0 ≤ 1; omega) (by show 0 ≤ 2; omega) dX9_function_22 (by exact ⟨(by show _ = (if vF kd then (if nf < 8 then _ else _) else _); rw [if_pos hs, if_neg c_17]), (by show cRep E _ NO x (if vF kd ∧ nf < 8 then _ else _); rw [if_neg (na2 c_17)]; exact hC0), kept.rf⟩)
    · skip
      have hz : ¬ vF kd := na2 c_6
      refine lv_iconst (v := -1) hx hb dX9_function_9 (by decide) ?_
      exact m_iret hx hb hr hlocks hM hS (by show 0 ≤ 1; omega) (by show 0 ≤ 2; omega) dX9_function_10 (by exact ⟨(if_neg hz).symm, (by show cRep E _ NO x (if vF kd ∧ nf < 8 then _ else _); rw [if_neg (na1 hz)]; exact hC0), kept.rf⟩)
theorem in_X9_block_X7 : ∀ w ∈ wsX70, w ∈ wsX9_block := by decide +kernel
theorem in_X9_block_X9 : ∀ w ∈ wsX90, w ∈ wsX9_block := by decide +kernel
set_option maxHeartbeats 4000000 in
set_option maxRecDepth 100000 in
theorem c_X9_block (l : Launch) (E : mEnv) (M : mMem) (sz : Nat) (NO : Nat → Prop) (x nn nf : Nat) (ins : Nat → sIn) (fn : Nat → Int32 × Int32) (bk : Nat → Option Nat) (rw : Nat → sRw) (bd st c2 c3 c4 : Int32) (hV : Inv (nn, ins, nf, fn, bk, rw, bd, st, c2, c3, c4)) (hC : cRep E M NO x (nn, ins, nf, fn, bk, rw, bd, st, c2, c3, c4)) (hO : ∀ q, NO q → M q ≠ none) (b ln k : Int32)    : Met l yX9_block wsX9_block ({ frames := 2, cells := 2, slots := 42, locals := 34 }) (mPre E M sz [.ref x, .int b, .int ln, .int k]) (mQi E M sz (fun r u => r = aBlock (nn, ins, nf, fn, bk, rw, bd, st, c2, c3, c4) b ln k ∧ cRep E u NO x (nBlock (nn, ins, nf, fn, bk, rw, bd, st, c2, c3, c4) b ln k) ∧ kept NO M u)) (2) (42) (mA M sz) := by
  refine m_met [.ref x, .int b, .int ln, .int k] (by decide) rfl (Nat.le_of_ble_eq_true rfl) ?_
  intro p e s m below meth c ls H eH hx hb hr hts hown hlocks hnm hml hsz hE hM hS hA hl
  have hl : lv_has ls 4 [(0, .ref x), (1, .int b), (2, .int ln), (3, .int k)] := hl
  obtain ⟨a1, a2, a3, a4, fi, fb, ff, wt, ia, ib, fa, ra, rb, fl, LV, hC⟩ := hC
  have hC0 := hC.rep
  have hiK := hV.insK
  obtain ⟨hnn, hnf, hvI, hvD, hv24, hvR, hvF⟩ := id hV
  obtain ⟨⟨g_x, g_a1, g_a2, g_a3, g_a4⟩, hI, hF, hB, hL, hR, hJ, hN⟩ := id hC
  obtain ⟨⟨nx, n1, n2, n3, n4⟩, nI0, nF0, nR0⟩ := id hN
  have g_a20 := g_a2
  refine lv_iload_n hx hb dX9_block_0 rfl (lv_at hl 1 rfl) ?_
  refine m_calli (va_runS (As := [.int b]) (rest := []) ⟨hx, hb, hml, hown, hts⟩ (c_X9_isBlock l E M H.size b) (va_cwS 1 hts gX9_block_X9_isBlock rfl rfl rfl (by decide +kernel) ⟨Nat.le_of_ble_eq_true rfl, Nat.le_of_ble_eq_true rfl⟩) (m_preS hE hM) rfl rfl hl.1 rfl (lv_room (Nat.le_of_ble_eq_true rfl)) dX9_block_1 ⟨(by show 0 + 0 ≤ 2; omega), (by show 0 + 0 ≤ 42; omega)⟩) hM hS hA (fun r0 u H locs hw hM hS => ?_)
  obtain ⟨e_r0, eu⟩ := hw
  rw [eu] at hM
  subst e_r0
  refine lv_if_eq (tgt := 20) hx hb dX9_block_4 (by decide) (fun c_4 => ?_) (fun c_4 => ?_)
  · skip
    rw [bI_eq] at c_4
    have hz : ¬ vBl b ln k := na1 c_4
    refine lv_iconst (v := -1) hx hb dX9_block_20 (by decide) ?_
    exact m_iret hx hb hr hlocks hM hS (by show 0 + 0 ≤ 2; omega) (by show 0 + 0 ≤ 42; omega) dX9_block_21 (by exact ⟨(if_neg hz).symm, (by show cRep E _ NO x (if vBl b ln k ∧ ¬ k < 0 then _ else _); rw [if_neg (na1 hz)]; exact hC0), kept.rf⟩)
  · skip
    rw [bI_ne] at c_4
    refine lv_iload_n hx hb dX9_block_7 rfl (lv_at hl 2 rfl) ?_
    refine m_calli (va_runS (As := [.int ln]) (rest := []) ⟨hx, hb, hml, hown, hts⟩ (c_X9_isLane l E M H.size ln) (va_cwS 1 hts gX9_block_X9_isLane rfl rfl rfl (by decide +kernel) ⟨Nat.le_of_ble_eq_true rfl, Nat.le_of_ble_eq_true rfl⟩) (m_preS hE hM) rfl rfl hl.1 rfl (lv_room (Nat.le_of_ble_eq_true rfl)) dX9_block_8 ⟨(by show 0 + 0 + 0 ≤ 2; omega), (by show 0 + 0 + 0 ≤ 42; omega)⟩) hM hS hA (fun r1 u H locs hw hM hS => ?_)
    obtain ⟨e_r1, eu⟩ := hw
    rw [eu] at hM
    subst e_r1
    refine lv_if_eq (tgt := 20) hx hb dX9_block_11 (by decide) (fun c_11 => ?_) (fun c_11 => ?_)
    · skip
      rw [bI_eq] at c_11
      have hz : ¬ vBl b ln k := na2 (na1 c_11)
      refine lv_iconst (v := -1) hx hb dX9_block_20 (by decide) ?_
      exact m_iret hx hb hr hlocks hM hS (by show 0 + 0 + 0 ≤ 2; omega) (by show 0 + 0 + 0 ≤ 42; omega) dX9_block_21 (by exact ⟨(if_neg hz).symm, (by show cRep E _ NO x (if vBl b ln k ∧ ¬ k < 0 then _ else _); rw [if_neg (na1 hz)]; exact hC0), kept.rf⟩)
    · skip
      rw [bI_ne] at c_11
      refine lv_iload_n hx hb dX9_block_14 rfl (lv_at hl 3 rfl) ?_
      refine lv_bipush (v := 40) hx hb dX9_block_15 (by decide) ?_
      refine lv_icmp_le (tgt := 22) hx hb dX9_block_17 (by decide) (fun c_17 => ?_) (fun c_17 => ?_)
      · skip
        have hs : vBl b ln k := ⟨c_4, c_11, c_17⟩
        refine lv_iload_n hx hb dX9_block_22 rfl (lv_at hl 3 rfl) ?_
        refine lv_if_ge (tgt := 29) hx hb dX9_block_23 (by decide) (fun c_23 => ?_) (fun c_23 => ?_)
        · skip
          have hk0 : ¬ k < 0 := Int32.not_lt.mpr c_23
          refine lv_aload_n hx hb dX9_block_29 rfl (lv_at hl 0 rfl) ?_
          refine m_get (ci := 7) (v := .ref a2) (C := RX9) (T := TX9) (N := 11) hx hb hts in_X9_block_X9 hown hE hM g_x rfl 1 (by decide) (hts (.fieldLink RX9 17 "CallWays2" "blocks" "[LCallWays2$Samples;") (by decide +kernel)) (fun _ h9 => h9) rfl dX9_block_30 ?_
          refine lv_iload_n hx hb dX9_block_33 rfl (lv_at hl 1 rfl) ?_
          have hk40 : k.toNatClampNeg ≤ 40 := by obtain ⟨z, hz, rfl⟩ := nI_of2 (M := 40) (n := 40) (by decide) hk0 c_17; rw [nI_clamp (by omega)]; exact hz
          refine m_new (ci := 5) (fs := [.int 0, .null]) (C := RX7) (T := TX7) (N := 2) hx hb hts in_X9_block_X7 tyX7 tyX7_ok hown (hts (.classLink RX9 15 RX7) (by decide +kernel)) (hts (.instantiable RX7 2) (by decide +kernel)) (hts (.initialized RX7) (by decide +kernel)) hE hM hS hA rfl (fun j hj => by rcases (show j = 0 ∨ j = 1 by omega) with rfl | rfl <;> rfl) (by show 0 + 0 + 0 + 1 ≤ 2; omega) (by show 0 + 0 + 0 + 2 ≤ 42; omega) dX9_block_34 (fun a H n_a hM hS => ?_)
          have hM : mOK E.1 (mA M sz) (mUp M a (mO 5 [.int 0, .null])) H := hM
          obtain ⟨M1, eM1⟩ : ∃ z, z = mUp M a (mO 5 [.int 0, .null]) := ⟨_, rfl⟩
          rw [← eM1] at hM
          have g_x : M1 x = some (mO 7 [.ref a1, .ref a2, .ref a3, .ref a4, .int (nI nn), .int (nI nf), .int bd, .int st, .int c2, .int c3, .int c4]) := by rw [eM1]; exact mUp_at (m_neN g_x n_a) g_x
          have g_a1 : M1 a1 = some (mQ E 4 12 fi) := by rw [eM1]; exact mUp_at (m_neN g_a1 n_a) g_a1
          have g_a2 : M1 a2 = some (mQ E 5 10 fb) := by rw [eM1]; exact mUp_at (m_neN g_a2 n_a) g_a2
          have g_a3 : M1 a3 = some (mQ E 6 8 ff) := by rw [eM1]; exact mUp_at (m_neN g_a3 n_a) g_a3
          have g_a4 : M1 a4 = some (mDb E 40 wt) := by rw [eM1]; exact mUp_at (m_neN g_a4 n_a) g_a4
          have g_a : M1 a = some (mO 5 [.int 0, .null]) := by rw [eM1]; exact mUp_self _ _ _
          refine lv_dup hx hb dX9_block_37 rfl ?_
          refine lv_iload_n hx hb dX9_block_38 rfl (lv_at hl 2 rfl) ?_
          refine lv_iload_n hx hb dX9_block_39 rfl (lv_at hl 3 rfl) ?_
          refine m_newD (N' := k.toNatClampNeg) hx hb (hts (.arrayClass .double) (by decide +kernel)) hE hM hS hA hk0 rfl (by omega) (by show 0 + 0 + 0 + 1 + 1 ≤ 2; omega) (by show 0 + 0 + 0 + 2 + k.toNatClampNeg ≤ 42; omega) dX9_block_40 (fun v H n_v hM hS => ?_)
          have hM : mOK E.1 (mA M sz) (mUp M1 v (mDb E k.toNatClampNeg (fun _ => 0))) H := hM
          obtain ⟨M2, eM2⟩ : ∃ z, z = mUp M1 v (mDb E k.toNatClampNeg (fun _ => 0)) := ⟨_, rfl⟩
          rw [← eM2] at hM
          have g_x : M2 x = some (mO 7 [.ref a1, .ref a2, .ref a3, .ref a4, .int (nI nn), .int (nI nf), .int bd, .int st, .int c2, .int c3, .int c4]) := by rw [eM2]; exact mUp_at (m_neN g_x n_v) g_x
          have g_a1 : M2 a1 = some (mQ E 4 12 fi) := by rw [eM2]; exact mUp_at (m_neN g_a1 n_v) g_a1
          have g_a2 : M2 a2 = some (mQ E 5 10 fb) := by rw [eM2]; exact mUp_at (m_neN g_a2 n_v) g_a2
          have g_a3 : M2 a3 = some (mQ E 6 8 ff) := by rw [eM2]; exact mUp_at (m_neN g_a3 n_v) g_a3
          have g_a4 : M2 a4 = some (mDb E 40 wt) := by rw [eM2]; exact mUp_at (m_neN g_a4 n_v) g_a4
          have g_a : M2 a = some (mO 5 [.int 0, .null]) := by rw [eM2]; exact mUp_at (m_neN g_a n_v) g_a
          have g_v : M2 v = some (mDb E k.toNatClampNeg (fun _ => 0)) := by rw [eM2]; exact mUp_self _ _ _
          refine m_callv (va_runI (As := [.int ln, .ref v]) (rest := [.ref a, .int b, .ref a2]) ⟨hx, hb, hml, hown, hts⟩ (c_X7_init l E M2 H.size a v ln g_a) (cwI 2 hts gX9_block_X7_init rfl rfl rfl (hts (.initialized RX7) (by decide +kernel)) (hts (.methodLink RX9 82 yX7_init) (by decide +kernel)) (hts (.instanceMethod yX7_init) (by decide +kernel)) rfl (by decide +kernel) ⟨Nat.le_of_ble_eq_true rfl, Nat.le_of_ble_eq_true rfl⟩) (m_preI hE hM) rfl rfl hl.1 rfl (lv_room (Nat.le_of_ble_eq_true rfl)) dX9_block_42 ⟨(by show 0 + 0 + 0 + 1 + 1 + 0 ≤ 2; omega), (by show 0 + 0 + 0 + 2 + k.toNatClampNeg + 0 ≤ 42; omega)⟩) hM hS hA (fun M4 H locs hw hM hS => ?_)
          have eM4 := hw
          have g_x_ : M4 x = some (mO 7 [.ref a1, .ref a2, .ref a3, .ref a4, .int (nI nn), .int (nI nf), .int bd, .int st, .int c2, .int c3, .int c4]) := by rw [eM4]; exact mUp_at (m_ne g_x g_a (by simp)) g_x
          have g_a1_ : M4 a1 = some (mQ E 4 12 fi) := by rw [eM4]; exact mUp_at (m_ne g_a1 g_a (by simp)) g_a1
          have g_a2_ : M4 a2 = some (mQ E 5 10 fb) := by rw [eM4]; exact mUp_at (m_ne g_a2 g_a (by simp)) g_a2
          have g_a3_ : M4 a3 = some (mQ E 6 8 ff) := by rw [eM4]; exact mUp_at (m_ne g_a3 g_a (by simp)) g_a3
          have g_a4_ : M4 a4 = some (mDb E 40 wt) := by rw [eM4]; exact mUp_at (m_ne g_a4 g_a (by simp)) g_a4
          have g_v_ : M4 v = some (mDb E k.toNatClampNeg (fun _ => 0)) := by rw [eM4]; exact mUp_at (m_ne g_v g_a (by simp)) g_v
          have g_x := g_x_
          have g_a1 := g_a1_
          have g_a2 := g_a2_
          have g_a3 := g_a3_
          have g_a4 := g_a4_
          have g_v := g_v_
          have g_a : M4 a = some (mO 5 [.int ln, .ref v]) := by rw [eM4]; exact mUp_self _ _ _
          refine m_qast hx hb hE hM hS 5 g_a2 rfl g_a rfl (in_lit (N := 10) (by decide) c_4.1 c_4.2) dX9_block_45 (fun H locs hM hS => ?_)
          have hM : mOK E.1 (mA M sz) (mUp M4 a2 (mQ E 5 10 (va_up fb b.toNatClampNeg (some a)))) H := hM
          obtain ⟨M5, eM5⟩ : ∃ z, z = mUp M4 a2 (mQ E 5 10 (va_up fb b.toNatClampNeg (some a))) := ⟨_, rfl⟩
          rw [← eM5] at hM
          have g_x_ : M5 x = some (mO 7 [.ref a1, .ref a2, .ref a3, .ref a4, .int (nI nn), .int (nI nf), .int bd, .int st, .int c2, .int c3, .int c4]) := by rw [eM5]; exact mUp_at (m_ne g_x g_a2 (by simp)) g_x
          have g_a1_ : M5 a1 = some (mQ E 4 12 fi) := by rw [eM5]; exact mUp_at (m_ne g_a1 g_a2 (by simp)) g_a1
          have g_a3_ : M5 a3 = some (mQ E 6 8 ff) := by rw [eM5]; exact mUp_at (m_ne g_a3 g_a2 (by simp)) g_a3
          have g_a4_ : M5 a4 = some (mDb E 40 wt) := by rw [eM5]; exact mUp_at (m_ne g_a4 g_a2 (by simp)) g_a4
          have g_a_ : M5 a = some (mO 5 [.int ln, .ref v]) := by rw [eM5]; exact mUp_at (m_ne g_a g_a2 (by simp)) g_a
          have g_v_ : M5 v = some (mDb E k.toNatClampNeg (fun _ => 0)) := by rw [eM5]; exact mUp_at (m_ne g_v g_a2 (by simp)) g_v
          have g_x := g_x_
          have g_a1 := g_a1_
          have g_a3 := g_a3_
          have g_a4 := g_a4_
          have g_a := g_a_
          have g_v := g_v_
          have g_a2 : M5 a2 = some (mQ E 5 10 (va_up fb b.toNatClampNeg (some a))) := by rw [eM5]; exact mUp_self _ _ _
          refine lv_iconst (v := 1) hx hb dX9_block_46 (by decide) ?_
          exact m_iret hx hb hr hlocks hM hS (by show 0 + 0 + 0 + 1 + 1 + 0 ≤ 2; omega) (by show 0 + 0 + 0 + 2 + k.toNatClampNeg + 0 ≤ 42; omega) dX9_block_47 (by exact ⟨(by show _ = (if vBl b ln k then (if k < 0 then _ else _) else _); rw [if_pos hs, if_neg hk0]), (by
      show cRep E _ NO x (if vBl b ln k ∧ ¬ k < 0 then _ else _)
      rw [if_pos ⟨hs, hk0⟩]
      obtain ⟨j, hj, hij, hjc⟩ := vB_ix c_4
      have kv := mUp_none (a := a) (by rw [← eM1]; exact n_v)
      have h1 := hC.setB (j := j) (o := none) hiK (fun r hr => by cases hr)
      have h2 := h1.shrink (L2 := live nn ins (va_up bk j none)) (fun _ h => h) (by obtain ⟨_, _, _, _, hL1, _⟩ := h1; exact hL1)
      have h3 := h2.addR (a := a) (v := v) (r := fresh (va_up bk j none) (tbs ins)) (n := k.toNatClampNeg) (lane := ln) (f := (fun _ => 0)) hiK (mUp_no n_a (m_neN g_a20 n_a)) (mUp_no kv.2 (m_neN g_a20 kv.2)) kv.1.symm (hO_up hO) (fresh_nl hnn)
      have h4 := h3.setB (j := j) (o := some (fresh (va_up bk j none) (tbs ins))) hiK (fun r hr => Or.inr (Option.some.inj hr).symm)
      rw [hjc]
      rw [eM5, eM4, eM2, eM1, mUp_swap kv.1, hjc]
      rw [mUp_3 (m_neN g_a20 kv.2) (m_neN g_a20 n_a), va_up_twice] at h4
      have h5 := h4.rep
      simp only [Option.map_some, Option.map_none, va_up_self, va_up_twice] at h5
      exact h5), (by rw [eM5, eM4, eM2, eM1]; have kv := mUp_none (a := a) (by rw [← eM1]; exact n_v); exact (((kept.rf.up (fun z => hO a z n_a)).up (fun z => hO v z kv.2)).up (fun z => hO a z n_a)).up n2)⟩)
        · skip
          have hk0 : k < 0 := Int32.not_le.mp c_23
          refine lv_bipush (v := -8) hx hb dX9_block_26 (by decide) ?_
          exact m_iret hx hb hr hlocks hM hS (by show 0 + 0 + 0 ≤ 2; omega) (by show 0 + 0 + 0 ≤ 42; omega) dX9_block_28 (by exact ⟨(by show _ = (if vBl b ln k then (if k < 0 then _ else _) else _); rw [if_pos hs, if_pos hk0]), (by show cRep E _ NO x (if vBl b ln k ∧ ¬ k < 0 then _ else _); rw [if_neg (na2 (not_not_intro hk0))]; exact hC0), kept.rf⟩)
      · skip
        have hz : ¬ vBl b ln k := na2 (na2 c_17)
        refine lv_iconst (v := -1) hx hb dX9_block_20 (by decide) ?_
        exact m_iret hx hb hr hlocks hM hS (by show 0 + 0 + 0 ≤ 2; omega) (by show 0 + 0 + 0 ≤ 42; omega) dX9_block_21 (by exact ⟨(if_neg hz).symm, (by show cRep E _ NO x (if vBl b ln k ∧ ¬ k < 0 then _ else _); rw [if_neg (na1 hz)]; exact hC0), kept.rf⟩)
