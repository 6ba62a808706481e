def sAt (bk : Nat → Option Nat) (rw : Nat → sRw) (b i : Int32) : Int32 := if vB b then (match bk b.toNatClampNeg with | none => -5 | some r => if ¬ i < 0 ∧ ¬ nI (rw r).2.1 ≤ i then 0 else -7) else -1
def aAt (σ : Sg) (b i : Int32) : Int64 := match σ with | (_, _, _, _, bk, rw, _) => if vB b then (match bk b.toNatClampNeg with | none => 0 | some r => if ¬ i < 0 ∧ ¬ nI (rw r).2.1 ≤ i then sBits (rw r).1 ((rw r).2.2 i.toNatClampNeg) else 0) else 0
def nAt (σ : Sg) (b i : Int32) : Sg := match σ with | (nn, ins, nf, fn, bk, rw, bd, st, c2, c3, c4) => (nn, ins, nf, fn, bk, rw, bd, sAt bk rw b i, c2, c3, c4)
def aPut (σ : Sg) (b i v : Int32) : Int32 := match σ with | (_, _, _, _, bk, rw, _) => if sAt bk rw b i = 0 then 1 else sAt bk rw b i
def rPut (bk : Nat → Option Nat) (rw : Nat → sRw) (b i v : Int32) : Nat → sRw := if sAt bk rw b i = 0 then (match bk b.toNatClampNeg with | none => rw | some r => va_up rw r ((rw r).1, (rw r).2.1, vf_upd (rw r).2.2 i.toNatClampNeg (sTurn (rw r).1 (FP.i2d v)))) else rw
def nPut (σ : Sg) (b i v : Int32) : Sg := match σ with | (nn, ins, nf, fn, bk, rw, bd, st, c2, c3, c4) => (nn, ins, nf, fn, bk, rPut bk rw b i v, bd, sAt bk rw b i, c2, c3, c4)
theorem sAt_b {bk : Nat → Option Nat} {rw : Nat → sRw} {b i : Int32} (h : ¬ vB b) : sAt bk rw b i = -1 := if_neg h
theorem sAt_n {bk : Nat → Option Nat} {rw : Nat → sRw} {b i : Int32} {j : Nat} (h : vB b) (hj : b.toNatClampNeg = j) (hb : bk j = none) : sAt bk rw b i = -5 := by
  unfold sAt
  rw [if_pos h, hj, hb]
theorem sAt_s {bk : Nat → Option Nat} {rw : Nat → sRw} {b i lane : Int32} {j r n : Nat} {f : Nat → UInt64} (h : vB b) (hj : b.toNatClampNeg = j) (hb : bk j = some r) (hr : rw r = (lane, n, f)) : sAt bk rw b i = if ¬ i < 0 ∧ ¬ nI n ≤ i then 0 else -7 := by
  unfold sAt
  rw [if_pos h, hj, hb]
  show (if ¬ i < 0 ∧ ¬ nI (rw r).2.1 ≤ i then (0 : Int32) else -7) = _
  rw [hr]
theorem in_X9_at_X9 : ∀ w ∈ wsX90, w ∈ wsX9_at := by decide +kernel
set_option maxHeartbeats 4000000 in
set_option maxRecDepth 100000 in
theorem c_X9_at (l : Launch) (E : mEnv) (M : mMem) (sz : Nat) (NO : Nat → Prop) (x nn nf : Nat) (ins : Nat → sIn) (fn : Nat → Int32 × Int32) (bk : Nat → Option Nat) (rw : Nat → sRw) (bd st c2 c3 c4 : Int32) (hV : Inv (nn, ins, nf, fn, bk, rw, bd, st, c2, c3, c4)) (hC : cRep E M NO x (nn, ins, nf, fn, bk, rw, bd, st, c2, c3, c4)) (hO : ∀ q, NO q → M q ≠ none) (b i : Int32)    : Met l yX9_at wsX9_at ({ frames := 3, cells := 0, slots := 0, locals := 68 }) (mPre E M sz [.ref x, .int b, .int i]) (mQl E M sz (fun r u => r = aAt (nn, ins, nf, fn, bk, rw, bd, st, c2, c3, c4) b i ∧ cRep E u NO x (nAt (nn, ins, nf, fn, bk, rw, bd, st, c2, c3, c4) b i) ∧ kept NO M u)) (0) (0) (mA M sz) := by
  refine m_met [.ref x, .int b, .int i] (by decide) rfl (Nat.le_of_ble_eq_true rfl) ?_
  intro p e s m below meth c ls H eH hx hb hr hts hown hlocks hnm hml hsz hE hM hS hA hl
  have hl : lv_has ls 3 [(0, .ref x), (1, .int b), (2, .int i)] := hl
  obtain ⟨a1, a2, a3, a4, fi, fb, ff, wt, ia, ib, fa, ra, rb, fl, LV, hC⟩ := hC
  have hC0 := hC.rep
  have hiK := hV.insK
  obtain ⟨hnn, hnf, hvI, hvD, hv24, hvR, hvF⟩ := id hV
  obtain ⟨⟨g_x, g_a1, g_a2, g_a3, g_a4⟩, hI, hF, hB, hL, hR, hJ, hN⟩ := id hC
  obtain ⟨⟨nx, n1, n2, n3, n4⟩, nI0, nF0, nR0⟩ := id hN
  refine lv_aload_n hx hb dX9_at_0 rfl (lv_at hl 0 rfl) ?_
  refine lv_aload_n hx hb dX9_at_1 rfl (lv_at hl 0 rfl) ?_
  refine lv_iload_n hx hb dX9_at_2 rfl (lv_at hl 1 rfl) ?_
  refine lv_iload_n hx hb dX9_at_3 rfl (lv_at hl 2 rfl) ?_
  by_cases hvb : ¬ b < 0 ∧ ¬ 10 ≤ b
  · obtain ⟨j1, hj1, hij1, hjc1⟩ := vB_ix hvb
    have hfb := hB j1 hj1
    rcases hbk1 : bk j1 with _ | w1
    · rw [hbk1] at hfb
      replace hfb : fb b.toNatClampNeg = none := by rw [hjc1]; exact hfb
      refine m_calli (va_runV (As := [.int b, .int i]) (rest := [.ref x]) ⟨hx, hb, hml, hown, hts⟩ (c_X9_place_n l E M H.size x a1 a2 a3 a4 nn nf bd st c2 c3 c4 fi fb ff wt b i hvb hfb g_x g_a2) (cwV 2 hts gX9_at_X9_againstPlace rfl rfl rfl (by decide +kernel) ⟨Nat.le_of_ble_eq_true rfl, Nat.le_of_ble_eq_true rfl⟩) (m_preV hE hM g_x rfl) rfl rfl hl.1 rfl (lv_room (Nat.le_of_ble_eq_true rfl)) dX9_at_4 ⟨Nat.le_of_ble_eq_true rfl, Nat.le_of_ble_eq_true rfl⟩) hM hS hA (fun r1 u H locs hw hM hS => ?_)
      obtain ⟨e_r1, eu⟩ := hw
      rw [eu] at hM
      subst e_r1
      have hsa : sAt bk rw b i = -5 := sAt_n hvb hjc1 hbk1
      refine m_put (ci := 7) (v := .int (-5)) (ty := .int) (C := RX9) (T := TX9) (N := 11) hx hb hts in_X9_at_X9 tyX9 tyX9_ok nmX9 hown hE hM hS g_x rfl 7 (by decide) (hts (.fieldLink RX9 53 "CallWays2" "latest" "I") (by decide +kernel)) (fun _ h9 => h9) rfl (by decide +kernel) rfl rfl (Nat.le_of_ble_eq_true rfl) dX9_at_7 (fun H locs hM hS => ?_)
      have hM : mOK E.1 (mA M sz) (mUp M x (mO 7 [.ref a1, .ref a2, .ref a3, .ref a4, .int (nI nn), .int (nI nf), .int bd, .int (-5), .int c2, .int c3, .int c4])) H := hM
      obtain ⟨M1, eM1⟩ : ∃ z, z = mUp M x (mO 7 [.ref a1, .ref a2, .ref a3, .ref a4, .int (nI nn), .int (nI nf), .int bd, .int (-5), .int c2, .int c3, .int c4]) := ⟨_, rfl⟩
      rw [← eM1] at hM
      have g_a1_ : M1 a1 = some (mQ E 4 12 fi) := by rw [eM1]; exact mUp_at (m_ne g_a1 g_x (by simp)) g_a1
      have g_a2_ : M1 a2 = some (mQ E 5 10 fb) := by rw [eM1]; exact mUp_at (m_ne g_a2 g_x (by simp)) g_a2
      have g_a3_ : M1 a3 = some (mQ E 6 8 ff) := by rw [eM1]; exact mUp_at (m_ne g_a3 g_x (by simp)) g_a3
      have g_a4_ : M1 a4 = some (mDb E 40 wt) := by rw [eM1]; exact mUp_at (m_ne g_a4 g_x (by simp)) g_a4
      have g_a1 := g_a1_
      have g_a2 := g_a2_
      have g_a3 := g_a3_
      have g_a4 := g_a4_
      have g_x : M1 x = some (mO 7 [.ref a1, .ref a2, .ref a3, .ref a4, .int (nI nn), .int (nI nf), .int bd, .int (-5), .int c2, .int c3, .int c4]) := by rw [eM1]; exact mUp_self _ _ _
      refine lv_aload_n hx hb dX9_at_10 rfl (lv_at hl 0 rfl) ?_
      refine m_get (ci := 7) (v := .int (-5)) (C := RX9) (T := TX9) (N := 11) hx hb hts in_X9_at_X9 hown hE hM g_x rfl 7 (by decide) (hts (.fieldLink RX9 53 "CallWays2" "latest" "I") (by decide +kernel)) (fun _ h9 => h9) rfl dX9_at_11 ?_
      refine lv_if_ne (tgt := 30) hx hb dX9_at_14 (by decide) (fun _ => ?_) (fun h9 => absurd h9 (by decide))
      refine lv_lconst (v := 0) hx hb dX9_at_30 (by decide) ?_
      exact m_lret hx hb hr hlocks hM hS (Nat.le_refl _) (Nat.le_refl _) dX9_at_31 (by exact ⟨(by show _ = (if vB b then _ else _); rw [if_pos hvb, hjc1, hbk1]), (by show cRep E _ NO x (nn, ins, nf, fn, bk, rw, bd, sAt bk rw b i, c2, c3, c4); rw [hsa, eM1]; exact (hC.scal hiK).rep), (by rw [eM1]; exact kx nx)⟩)
    · rw [hbk1] at hfb
      have hlv1 : live nn ins bk w1 := Or.inl ⟨j1, hj1, hbk1⟩
      rcases hrw1 : rw w1 with ⟨lane1, n1, f1⟩
      obtain ⟨g_s1, g_v1, hva1⟩ := hR w1 (hL w1 hlv1) _ _ _ hrw1
      obtain ⟨hn1, hlane1, hvo1⟩ := hvR w1 hlv1 _ _ _ hrw1
      have hnr1 := nR0 w1 (hL w1 hlv1)
      obtain ⟨s1, es1⟩ : ∃ z, z = ra w1 := ⟨_, rfl⟩
      obtain ⟨v1, ev1⟩ : ∃ z, z = rb w1 := ⟨_, rfl⟩
      rw [← es1, ← ev1] at g_s1
      rw [← ev1] at g_v1 hva1
      replace hfb : fb b.toNatClampNeg = some s1 := by rw [hjc1, es1]; exact hfb
      by_cases hin : ¬ i < 0 ∧ ¬ nI n1 ≤ i
      · have hsa : sAt bk rw b i = 0 := by rw [sAt_s hvb hjc1 hbk1 hrw1, if_pos hin]
        refine m_calli (va_runV (As := [.int b, .int i]) (rest := [.ref x]) ⟨hx, hb, hml, hown, hts⟩ (c_X9_place_s l E M H.size x a1 a2 a3 a4 nn nf bd st c2 c3 c4 fi fb ff wt s1 v1 n1 lane1 f1 b i hvb hfb g_x g_a2 g_s1 g_v1) (cwV 2 hts gX9_at_X9_againstPlace rfl rfl rfl (by decide +kernel) ⟨Nat.le_of_ble_eq_true rfl, Nat.le_of_ble_eq_true rfl⟩) (m_preV hE hM g_x rfl) rfl rfl hl.1 rfl (lv_room (Nat.le_of_ble_eq_true rfl)) dX9_at_4 ⟨Nat.le_of_ble_eq_true rfl, Nat.le_of_ble_eq_true rfl⟩) hM hS hA (fun r1 u H locs hw hM hS => ?_)
        obtain ⟨e_r1, eu⟩ := hw
        rw [eu] at hM
        rw [if_pos hin] at e_r1
        subst e_r1
        refine m_put (ci := 7) (v := .int 0) (ty := .int) (C := RX9) (T := TX9) (N := 11) hx hb hts in_X9_at_X9 tyX9 tyX9_ok nmX9 hown hE hM hS g_x rfl 7 (by decide) (hts (.fieldLink RX9 53 "CallWays2" "latest" "I") (by decide +kernel)) (fun _ h9 => h9) rfl (by decide +kernel) rfl rfl (Nat.le_of_ble_eq_true rfl) dX9_at_7 (fun H locs hM hS => ?_)
        have hM : mOK E.1 (mA M sz) (mUp M x (mO 7 [.ref a1, .ref a2, .ref a3, .ref a4, .int (nI nn), .int (nI nf), .int bd, .int 0, .int c2, .int c3, .int c4])) H := hM
        obtain ⟨M2, eM2⟩ : ∃ z, z = mUp M x (mO 7 [.ref a1, .ref a2, .ref a3, .ref a4, .int (nI nn), .int (nI nf), .int bd, .int 0, .int c2, .int c3, .int c4]) := ⟨_, rfl⟩
        rw [← eM2] at hM
        have g_a1_ : M2 a1 = some (mQ E 4 12 fi) := by rw [eM2]; exact mUp_at (m_ne g_a1 g_x (by simp)) g_a1
        have g_a2_ : M2 a2 = some (mQ E 5 10 fb) := by rw [eM2]; exact mUp_at (m_ne g_a2 g_x (by simp)) g_a2
        have g_a3_ : M2 a3 = some (mQ E 6 8 ff) := by rw [eM2]; exact mUp_at (m_ne g_a3 g_x (by simp)) g_a3
        have g_a4_ : M2 a4 = some (mDb E 40 wt) := by rw [eM2]; exact mUp_at (m_ne g_a4 g_x (by simp)) g_a4
        have g_s1_ : M2 s1 = some (mO 5 [.int lane1, .ref v1]) := by rw [eM2]; exact mUp_at (m_ne g_s1 g_x (by simp)) g_s1
        have g_v1_ : M2 v1 = some (mDb E n1 f1) := by rw [eM2]; exact mUp_at (m_ne g_v1 g_x (by simp)) g_v1
        have g_a1 := g_a1_
        have g_a2 := g_a2_
        have g_a3 := g_a3_
        have g_a4 := g_a4_
        have g_s1 := g_s1_
        have g_v1 := g_v1_
        have g_x : M2 x = some (mO 7 [.ref a1, .ref a2, .ref a3, .ref a4, .int (nI nn), .int (nI nf), .int bd, .int 0, .int c2, .int c3, .int c4]) := by rw [eM2]; exact mUp_self _ _ _
        refine lv_aload_n hx hb dX9_at_10 rfl (lv_at hl 0 rfl) ?_
        refine m_get (ci := 7) (v := .int 0) (C := RX9) (T := TX9) (N := 11) hx hb hts in_X9_at_X9 hown hE hM g_x rfl 7 (by decide) (hts (.fieldLink RX9 53 "CallWays2" "latest" "I") (by decide +kernel)) (fun _ h9 => h9) rfl dX9_at_11 ?_
        refine lv_if_ne (tgt := 30) hx hb dX9_at_14 (by decide) (fun h9 => absurd rfl h9) (fun _ => ?_)
        refine lv_aload_n hx hb dX9_at_17 rfl (lv_at hl 0 rfl) ?_
        refine m_get (ci := 7) (v := .ref a2) (C := RX9) (T := TX9) (N := 11) hx hb hts in_X9_at_X9 hown hE hM g_x rfl 1 (by decide) (hts (.fieldLink RX9 17 "CallWays2" "blocks" "[LCallWays2$Samples;") (by decide +kernel)) (fun _ h9 => h9) rfl dX9_at_18 ?_
        refine lv_iload_n hx hb dX9_at_21 rfl (lv_at hl 1 rfl) ?_
        refine m_qald (C := "CallWays2$Samples") (r := some s1) hx hb hE hM 5 g_a2 rfl (in_lit (N := 10) (by decide) hvb.1 hvb.2) hfb dX9_at_22 ?_
        show W _ _ _ _ _ _ _ _ _ _ _ _ _ _ _ (F0 m 23 ls [.ref s1])
        refine lv_iload_n hx hb dX9_at_23 rfl (lv_at hl 2 rfl) ?_
        refine m_calll (va_runV (As := [.int i]) (rest := []) ⟨hx, hb, hml, hown, hts⟩ (c_X7_bits l E M2 H.size s1 v1 n1 lane1 f1 i (vp_in_h hin (by omega)) (hvo1 _ (by obtain ⟨z, hz, rfl⟩ := vp_in_of (vp_in_h hin (by omega)) (by omega); rw [nI_clamp (by omega)]; exact hz)) g_s1 g_v1) (cwV 1 hts gX9_at_X7_bits rfl rfl rfl (by decide +kernel) ⟨Nat.le_of_ble_eq_true rfl, Nat.le_of_ble_eq_true rfl⟩) (m_preV hE hM g_s1 rfl) rfl rfl hl.1 rfl (lv_room (Nat.le_of_ble_eq_true rfl)) dX9_at_24 ⟨Nat.le_of_ble_eq_true rfl, Nat.le_of_ble_eq_true rfl⟩) hM hS hA (fun r2 u H locs hw hM hS => ?_)
        obtain ⟨e_r2, eu⟩ := hw
        rw [eu] at hM
        subst e_r2
        refine lv_goto (tgt := 31) hx hb dX9_at_27 (by decide) ?_
        exact m_lret hx hb hr hlocks hM hS (Nat.le_refl _) (Nat.le_refl _) dX9_at_31 (by exact ⟨(by show _ = (if vB b then _ else _); rw [if_pos hvb, hjc1, hbk1]; show _ = (if ¬ i < 0 ∧ ¬ nI (rw w1).2.1 ≤ i then _ else _); rw [hrw1, if_pos hin]), (by show cRep E _ NO x (nn, ins, nf, fn, bk, rw, bd, sAt bk rw b i, c2, c3, c4); rw [hsa, eM2]; exact (hC.scal hiK).rep), (by rw [eM2]; exact kx nx)⟩)
      · have hsa : sAt bk rw b i = -7 := by rw [sAt_s hvb hjc1 hbk1 hrw1, if_neg hin]
        refine m_calli (va_runV (As := [.int b, .int i]) (rest := [.ref x]) ⟨hx, hb, hml, hown, hts⟩ (c_X9_place_s l E M H.size x a1 a2 a3 a4 nn nf bd st c2 c3 c4 fi fb ff wt s1 v1 n1 lane1 f1 b i hvb hfb g_x g_a2 g_s1 g_v1) (cwV 2 hts gX9_at_X9_againstPlace rfl rfl rfl (by decide +kernel) ⟨Nat.le_of_ble_eq_true rfl, Nat.le_of_ble_eq_true rfl⟩) (m_preV hE hM g_x rfl) rfl rfl hl.1 rfl (lv_room (Nat.le_of_ble_eq_true rfl)) dX9_at_4 ⟨Nat.le_of_ble_eq_true rfl, Nat.le_of_ble_eq_true rfl⟩) hM hS hA (fun r1 u H locs hw hM hS => ?_)
        obtain ⟨e_r1, eu⟩ := hw
        rw [eu] at hM
        rw [if_neg hin] at e_r1
        subst e_r1
        refine m_put (ci := 7) (v := .int (-7)) (ty := .int) (C := RX9) (T := TX9) (N := 11) hx hb hts in_X9_at_X9 tyX9 tyX9_ok nmX9 hown hE hM hS g_x rfl 7 (by decide) (hts (.fieldLink RX9 53 "CallWays2" "latest" "I") (by decide +kernel)) (fun _ h9 => h9) rfl (by decide +kernel) rfl rfl (Nat.le_of_ble_eq_true rfl) dX9_at_7 (fun H locs hM hS => ?_)
        have hM : mOK E.1 (mA M sz) (mUp M x (mO 7 [.ref a1, .ref a2, .ref a3, .ref a4, .int (nI nn), .int (nI nf), .int bd, .int (-7), .int c2, .int c3, .int c4])) H := hM
        obtain ⟨M3, eM3⟩ : ∃ z, z = mUp M x (mO 7 [.ref a1, .ref a2, .ref a3, .ref a4, .int (nI nn), .int (nI nf), .int bd, .int (-7), .int c2, .int c3, .int c4]) := ⟨_, rfl⟩
        rw [← eM3] at hM
        have g_a1_ : M3 a1 = some (mQ E 4 12 fi) := by rw [eM3]; exact mUp_at (m_ne g_a1 g_x (by simp)) g_a1
        have g_a2_ : M3 a2 = some (mQ E 5 10 fb) := by rw [eM3]; exact mUp_at (m_ne g_a2 g_x (by simp)) g_a2
        have g_a3_ : M3 a3 = some (mQ E 6 8 ff) := by rw [eM3]; exact mUp_at (m_ne g_a3 g_x (by simp)) g_a3
        have g_a4_ : M3 a4 = some (mDb E 40 wt) := by rw [eM3]; exact mUp_at (m_ne g_a4 g_x (by simp)) g_a4
        have g_s1_ : M3 s1 = some (mO 5 [.int lane1, .ref v1]) := by rw [eM3]; exact mUp_at (m_ne g_s1 g_x (by simp)) g_s1
        have g_v1_ : M3 v1 = some (mDb E n1 f1) := by rw [eM3]; exact mUp_at (m_ne g_v1 g_x (by simp)) g_v1
        have g_a1 := g_a1_
        have g_a2 := g_a2_
        have g_a3 := g_a3_
        have g_a4 := g_a4_
        have g_s1 := g_s1_
        have g_v1 := g_v1_
        have g_x : M3 x = some (mO 7 [.ref a1, .ref a2, .ref a3, .ref a4, .int (nI nn), .int (nI nf), .int bd, .int (-7), .int c2, .int c3, .int c4]) := by rw [eM3]; exact mUp_self _ _ _
        refine lv_aload_n hx hb dX9_at_10 rfl (lv_at hl 0 rfl) ?_
        refine m_get (ci := 7) (v := .int (-7)) (C := RX9) (T := TX9) (N := 11) hx hb hts in_X9_at_X9 hown hE hM g_x rfl 7 (by decide) (hts (.fieldLink RX9 53 "CallWays2" "latest" "I") (by decide +kernel)) (fun _ h9 => h9) rfl dX9_at_11 ?_
        refine lv_if_ne (tgt := 30) hx hb dX9_at_14 (by decide) (fun _ => ?_) (fun h9 => absurd h9 (by decide))
        refine lv_lconst (v := 0) hx hb dX9_at_30 (by decide) ?_
        exact m_lret hx hb hr hlocks hM hS (Nat.le_refl _) (Nat.le_refl _) dX9_at_31 (by exact ⟨(by show _ = (if vB b then _ else _); rw [if_pos hvb, hjc1, hbk1]; show _ = (if ¬ i < 0 ∧ ¬ nI (rw w1).2.1 ≤ i then _ else _); rw [hrw1, if_neg hin]), (by show cRep E _ NO x (nn, ins, nf, fn, bk, rw, bd, sAt bk rw b i, c2, c3, c4); rw [hsa, eM3]; exact (hC.scal hiK).rep), (by rw [eM3]; exact kx nx)⟩)
  · have hsa : sAt bk rw b i = -1 := sAt_b hvb
    refine m_calli (va_runV (As := [.int b, .int i]) (rest := [.ref x]) ⟨hx, hb, hml, hown, hts⟩ (c_X9_place_b l E M H.size x a1 a2 a3 a4 nn nf bd st c2 c3 c4 fi fb ff wt b i hvb g_x g_a2) (cwV 2 hts gX9_at_X9_againstPlace rfl rfl rfl (by decide +kernel) ⟨Nat.le_of_ble_eq_true rfl, Nat.le_of_ble_eq_true rfl⟩) (m_preV hE hM g_x rfl) rfl rfl hl.1 rfl (lv_room (Nat.le_of_ble_eq_true rfl)) dX9_at_4 ⟨Nat.le_of_ble_eq_true rfl, Nat.le_of_ble_eq_true rfl⟩) hM hS hA (fun r1 u H locs hw hM hS => ?_)
    obtain ⟨e_r1, eu⟩ := hw
    rw [eu] at hM
    subst e_r1
    refine m_put (ci := 7) (v := .int (-1)) (ty := .int) (C := RX9) (T := TX9) (N := 11) hx hb hts in_X9_at_X9 tyX9 tyX9_ok nmX9 hown hE hM hS g_x rfl 7 (by decide) (hts (.fieldLink RX9 53 "CallWays2" "latest" "I") (by decide +kernel)) (fun _ h9 => h9) rfl (by decide +kernel) rfl rfl (Nat.le_of_ble_eq_true rfl) dX9_at_7 (fun H locs hM hS => ?_)
    have hM : mOK E.1 (mA M sz) (mUp M x (mO 7 [.ref a1, .ref a2, .ref a3, .ref a4, .int (nI nn), .int (nI nf), .int bd, .int (-1), .int c2, .int c3, .int c4])) H := hM
    obtain ⟨M4, eM4⟩ : ∃ z, z = mUp M x (mO 7 [.ref a1, .ref a2, .ref a3, .ref a4, .int (nI nn), .int (nI nf), .int bd, .int (-1), .int c2, .int c3, .int c4]) := ⟨_, rfl⟩
    rw [← eM4] at hM
    have g_a1_ : M4 a1 = some (mQ E 4 12 fi) := by rw [eM4]; exact mUp_at (m_ne g_a1 g_x (by simp)) g_a1
    have g_a2_ : M4 a2 = some (mQ E 5 10 fb) := by rw [eM4]; exact mUp_at (m_ne g_a2 g_x (by simp)) g_a2
    have g_a3_ : M4 a3 = some (mQ E 6 8 ff) := by rw [eM4]; exact mUp_at (m_ne g_a3 g_x (by simp)) g_a3
    have g_a4_ : M4 a4 = some (mDb E 40 wt) := by rw [eM4]; exact mUp_at (m_ne g_a4 g_x (by simp)) g_a4
    have g_a1 := g_a1_
    have g_a2 := g_a2_
    have g_a3 := g_a3_
    have g_a4 := g_a4_
    have g_x : M4 x = some (mO 7 [.ref a1, .ref a2, .ref a3, .ref a4, .int (nI nn), .int (nI nf), .int bd, .int (-1), .int c2, .int c3, .int c4]) := by rw [eM4]; exact mUp_self _ _ _
    refine lv_aload_n hx hb dX9_at_10 rfl (lv_at hl 0 rfl) ?_
    refine m_get (ci := 7) (v := .int (-1)) (C := RX9) (T := TX9) (N := 11) hx hb hts in_X9_at_X9 hown hE hM g_x rfl 7 (by decide) (hts (.fieldLink RX9 53 "CallWays2" "latest" "I") (by decide +kernel)) (fun _ h9 => h9) rfl dX9_at_11 ?_
    refine lv_if_ne (tgt := 30) hx hb dX9_at_14 (by decide) (fun _ => ?_) (fun h9 => absurd h9 (by decide))
    refine lv_lconst (v := 0) hx hb dX9_at_30 (by decide) ?_
    exact m_lret hx hb hr hlocks hM hS (Nat.le_refl _) (Nat.le_refl _) dX9_at_31 (by exact ⟨(by show _ = (if vB b then _ else _); rw [if_neg hvb]), (by show cRep E _ NO x (nn, ins, nf, fn, bk, rw, bd, sAt bk rw b i, c2, c3, c4); rw [hsa, eM4]; exact (hC.scal hiK).rep), (by rw [eM4]; exact kx nx)⟩)
theorem in_X9_put_X9 : ∀ w ∈ wsX90, w ∈ wsX9_put := by decide +kernel
set_option maxHeartbeats 4000000 in
set_option maxRecDepth 100000 in
theorem c_X9_put (l : Launch) (E : mEnv) (M : mMem) (sz : Nat) (NO : Nat → Prop) (x nn nf : Nat) (ins : Nat → sIn) (fn : Nat → Int32 × Int32) (bk : Nat → Option Nat) (rw : Nat → sRw) (bd st c2 c3 c4 : Int32) (hV : Inv (nn, ins, nf, fn, bk, rw, bd, st, c2, c3, c4)) (hC : cRep E M NO x (nn, ins, nf, fn, bk, rw, bd, st, c2, c3, c4)) (hO : ∀ q, NO q → M q ≠ none) (b i v : Int32)    : Met l yX9_put wsX9_put ({ frames := 2, cells := 0, slots := 0, locals := 45 }) (mPre E M sz [.ref x, .int b, .int i, .int v]) (mQi E M sz (fun r u => r = aPut (nn, ins, nf, fn, bk, rw, bd, st, c2, c3, c4) b i v ∧ cRep E u NO x (nPut (nn, ins, nf, fn, bk, rw, bd, st, c2, c3, c4) b i v) ∧ kept NO M u)) (0) (0) (mA M sz) := by
  refine m_met [.ref x, .int b, .int i, .int v] (by decide) rfl (Nat.le_of_ble_eq_true rfl) ?_
  intro p e s m below meth c ls H eH hx hb hr hts hown hlocks hnm hml hsz hE hM hS hA hl
  have hl : lv_has ls 4 [(0, .ref x), (1, .int b), (2, .int i), (3, .int v)] := hl
  obtain ⟨a1, a2, a3, a4, fi, fb, ff, wt, ia, ib, fa, ra, rb, fl, LV, hC⟩ := hC
  have hC0 := hC.rep
  have hiK := hV.insK
  obtain ⟨hnn, hnf, hvI, hvD, hv24, hvR, hvF⟩ := id hV
  obtain ⟨⟨g_x, g_a1, g_a2, g_a3, g_a4⟩, hI, hF, hB, hL, hR, hJ, hN⟩ := id hC
  obtain ⟨⟨nx, n1, n2, n3, n4⟩, nI0, nF0, nR0⟩ := id hN
  refine lv_aload_n hx hb dX9_put_0 rfl (lv_at hl 0 rfl) ?_
  refine lv_aload_n hx hb dX9_put_1 rfl (lv_at hl 0 rfl) ?_
  refine lv_iload_n hx hb dX9_put_2 rfl (lv_at hl 1 rfl) ?_
  refine lv_iload_n hx hb dX9_put_3 rfl (lv_at hl 2 rfl) ?_
  by_cases hvb : ¬ b < 0 ∧ ¬ 10 ≤ b
  · obtain ⟨j1, hj1, hij1, hjc1⟩ := vB_ix hvb
    have hfb := hB j1 hj1
    rcases hbk1 : bk j1 with _ | w1
    · rw [hbk1] at hfb
      replace hfb : fb b.toNatClampNeg = none := by rw [hjc1]; exact hfb
      refine m_calli (va_runV (As := [.int b, .int i]) (rest := [.ref x]) ⟨hx, hb, hml, hown, hts⟩ (c_X9_place_n l E M H.size x a1 a2 a3 a4 nn nf bd st c2 c3 c4 fi fb ff wt b i hvb hfb g_x g_a2) (cwV 2 hts gX9_put_X9_againstPlace rfl rfl rfl (by decide +kernel) ⟨Nat.le_of_ble_eq_true rfl, Nat.le_of_ble_eq_true rfl⟩) (m_preV hE hM g_x rfl) rfl rfl hl.1 rfl (lv_room (Nat.le_of_ble_eq_true rfl)) dX9_put_4 ⟨Nat.le_of_ble_eq_true rfl, Nat.le_of_ble_eq_true rfl⟩) hM hS hA (fun r1 u H locs hw hM hS => ?_)
      obtain ⟨e_r1, eu⟩ := hw
      rw [eu] at hM
      subst e_r1
      have hsa : sAt bk rw b i = -5 := sAt_n hvb hjc1 hbk1
      refine m_put (ci := 7) (v := .int (-5)) (ty := .int) (C := RX9) (T := TX9) (N := 11) hx hb hts in_X9_put_X9 tyX9 tyX9_ok nmX9 hown hE hM hS g_x rfl 7 (by decide) (hts (.fieldLink RX9 53 "CallWays2" "latest" "I") (by decide +kernel)) (fun _ h9 => h9) rfl (by decide +kernel) rfl rfl (Nat.le_of_ble_eq_true rfl) dX9_put_7 (fun H locs hM hS => ?_)
      have hM : mOK E.1 (mA M sz) (mUp M x (mO 7 [.ref a1, .ref a2, .ref a3, .ref a4, .int (nI nn), .int (nI nf), .int bd, .int (-5), .int c2, .int c3, .int c4])) H := hM
      obtain ⟨M1, eM1⟩ : ∃ z, z = mUp M x (mO 7 [.ref a1, .ref a2, .ref a3, .ref a4, .int (nI nn), .int (nI nf), .int bd, .int (-5), .int c2, .int c3, .int c4]) := ⟨_, rfl⟩
      rw [← eM1] at hM
      have g_a1_ : M1 a1 = some (mQ E 4 12 fi) := by rw [eM1]; exact mUp_at (m_ne g_a1 g_x (by simp)) g_a1
      have g_a2_ : M1 a2 = some (mQ E 5 10 fb) := by rw [eM1]; exact mUp_at (m_ne g_a2 g_x (by simp)) g_a2
      have g_a3_ : M1 a3 = some (mQ E 6 8 ff) := by rw [eM1]; exact mUp_at (m_ne g_a3 g_x (by simp)) g_a3
      have g_a4_ : M1 a4 = some (mDb E 40 wt) := by rw [eM1]; exact mUp_at (m_ne g_a4 g_x (by simp)) g_a4
      have g_a1 := g_a1_
      have g_a2 := g_a2_
      have g_a3 := g_a3_
      have g_a4 := g_a4_
      have g_x : M1 x = some (mO 7 [.ref a1, .ref a2, .ref a3, .ref a4, .int (nI nn), .int (nI nf), .int bd, .int (-5), .int c2, .int c3, .int c4]) := by rw [eM1]; exact mUp_self _ _ _
      refine lv_aload_n hx hb dX9_put_10 rfl (lv_at hl 0 rfl) ?_
      refine m_get (ci := 7) (v := .int (-5)) (C := RX9) (T := TX9) (N := 11) hx hb hts in_X9_put_X9 hown hE hM g_x rfl 7 (by decide) (hts (.fieldLink RX9 53 "CallWays2" "latest" "I") (by decide +kernel)) (fun _ h9 => h9) rfl dX9_put_11 ?_
      refine lv_if_eq (tgt := 22) hx hb dX9_put_14 (by decide) (fun h9 => absurd h9 (by decide)) (fun _ => ?_)
      refine lv_aload_n hx hb dX9_put_17 rfl (lv_at hl 0 rfl) ?_
      refine m_get (ci := 7) (v := .int (-5)) (C := RX9) (T := TX9) (N := 11) hx hb hts in_X9_put_X9 hown hE hM g_x rfl 7 (by decide) (hts (.fieldLink RX9 53 "CallWays2" "latest" "I") (by decide +kernel)) (fun _ h9 => h9) rfl dX9_put_18 ?_
      exact m_iret hx hb hr hlocks hM hS (Nat.le_refl _) (Nat.le_refl _) dX9_put_21 (by exact ⟨(by show _ = (if sAt bk rw b i = 0 then _ else _); rw [hsa]; rfl), (by show cRep E _ NO x (nn, ins, nf, fn, bk, rPut bk rw b i v, bd, sAt bk rw b i, c2, c3, c4); unfold rPut; rw [hsa, if_neg (by decide), eM1]; exact (hC.scal hiK).rep), (by rw [eM1]; exact kx nx)⟩)
    · rw [hbk1] at hfb
      have hlv1 : live nn ins bk w1 := Or.inl ⟨j1, hj1, hbk1⟩
      rcases hrw1 : rw w1 with ⟨lane1, n1, f1⟩
      obtain ⟨g_s1, g_v1, hva1⟩ := hR w1 (hL w1 hlv1) _ _ _ hrw1
      obtain ⟨hn1, hlane1, hvo1⟩ := hvR w1 hlv1 _ _ _ hrw1
      have hnr1 := nR0 w1 (hL w1 hlv1)
      obtain ⟨s1, es1⟩ : ∃ z, z = ra w1 := ⟨_, rfl⟩
      obtain ⟨v1, ev1⟩ : ∃ z, z = rb w1 := ⟨_, rfl⟩
      rw [← es1, ← ev1] at g_s1
      rw [← ev1] at g_v1 hva1
      replace hfb : fb b.toNatClampNeg = some s1 := by rw [hjc1, es1]; exact hfb
      by_cases hin : ¬ i < 0 ∧ ¬ nI n1 ≤ i
      · have hsa : sAt bk rw b i = 0 := by rw [sAt_s hvb hjc1 hbk1 hrw1, if_pos hin]
        refine m_calli (va_runV (As := [.int b, .int i]) (rest := [.ref x]) ⟨hx, hb, hml, hown, hts⟩ (c_X9_place_s l E M H.size x a1 a2 a3 a4 nn nf bd st c2 c3 c4 fi fb ff wt s1 v1 n1 lane1 f1 b i hvb hfb g_x g_a2 g_s1 g_v1) (cwV 2 hts gX9_put_X9_againstPlace rfl rfl rfl (by decide +kernel) ⟨Nat.le_of_ble_eq_true rfl, Nat.le_of_ble_eq_true rfl⟩) (m_preV hE hM g_x rfl) rfl rfl hl.1 rfl (lv_room (Nat.le_of_ble_eq_true rfl)) dX9_put_4 ⟨Nat.le_of_ble_eq_true rfl, Nat.le_of_ble_eq_true rfl⟩) hM hS hA (fun r1 u H locs hw hM hS => ?_)
        obtain ⟨e_r1, eu⟩ := hw
        rw [eu] at hM
        rw [if_pos hin] at e_r1
        subst e_r1
        refine m_put (ci := 7) (v := .int 0) (ty := .int) (C := RX9) (T := TX9) (N := 11) hx hb hts in_X9_put_X9 tyX9 tyX9_ok nmX9 hown hE hM hS g_x rfl 7 (by decide) (hts (.fieldLink RX9 53 "CallWays2" "latest" "I") (by decide +kernel)) (fun _ h9 => h9) rfl (by decide +kernel) rfl rfl (Nat.le_of_ble_eq_true rfl) dX9_put_7 (fun H locs hM hS => ?_)
        have hM : mOK E.1 (mA M sz) (mUp M x (mO 7 [.ref a1, .ref a2, .ref a3, .ref a4, .int (nI nn), .int (nI nf), .int bd, .int 0, .int c2, .int c3, .int c4])) H := hM
        obtain ⟨M2, eM2⟩ : ∃ z, z = mUp M x (mO 7 [.ref a1, .ref a2, .ref a3, .ref a4, .int (nI nn), .int (nI nf), .int bd, .int 0, .int c2, .int c3, .int c4]) := ⟨_, rfl⟩
        rw [← eM2] at hM
        have g_a1_ : M2 a1 = some (mQ E 4 12 fi) := by rw [eM2]; exact mUp_at (m_ne g_a1 g_x (by simp)) g_a1
        have g_a2_ : M2 a2 = some (mQ E 5 10 fb) := by rw [eM2]; exact mUp_at (m_ne g_a2 g_x (by simp)) g_a2
        have g_a3_ : M2 a3 = some (mQ E 6 8 ff) := by rw [eM2]; exact mUp_at (m_ne g_a3 g_x (by simp)) g_a3
        have g_a4_ : M2 a4 = some (mDb E 40 wt) := by rw [eM2]; exact mUp_at (m_ne g_a4 g_x (by simp)) g_a4
        have g_s1_ : M2 s1 = some (mO 5 [.int lane1, .ref v1]) := by rw [eM2]; exact mUp_at (m_ne g_s1 g_x (by simp)) g_s1
        have g_v1_ : M2 v1 = some (mDb E n1 f1) := by rw [eM2]; exact mUp_at (m_ne g_v1 g_x (by simp)) g_v1
        have g_a1 := g_a1_
        have g_a2 := g_a2_
        have g_a3 := g_a3_
        have g_a4 := g_a4_
        have g_s1 := g_s1_
        have g_v1 := g_v1_
        have g_x : M2 x = some (mO 7 [.ref a1, .ref a2, .ref a3, .ref a4, .int (nI nn), .int (nI nf), .int bd, .int 0, .int c2, .int c3, .int c4]) := by rw [eM2]; exact mUp_self _ _ _
        refine lv_aload_n hx hb dX9_put_10 rfl (lv_at hl 0 rfl) ?_
        refine m_get (ci := 7) (v := .int 0) (C := RX9) (T := TX9) (N := 11) hx hb hts in_X9_put_X9 hown hE hM g_x rfl 7 (by decide) (hts (.fieldLink RX9 53 "CallWays2" "latest" "I") (by decide +kernel)) (fun _ h9 => h9) rfl dX9_put_11 ?_
        refine lv_if_eq (tgt := 22) hx hb dX9_put_14 (by decide) (fun _ => ?_) (fun h9 => absurd rfl h9)
        refine lv_aload_n hx hb dX9_put_22 rfl (lv_at hl 0 rfl) ?_
        refine m_get (ci := 7) (v := .ref a2) (C := RX9) (T := TX9) (N := 11) hx hb hts in_X9_put_X9 hown hE hM g_x rfl 1 (by decide) (hts (.fieldLink RX9 17 "CallWays2" "blocks" "[LCallWays2$Samples;") (by decide +kernel)) (fun _ h9 => h9) rfl dX9_put_23 ?_
        refine lv_iload_n hx hb dX9_put_26 rfl (lv_at hl 1 rfl) ?_
        refine m_qald (C := "CallWays2$Samples") (r := some s1) hx hb hE hM 5 g_a2 rfl (in_lit (N := 10) (by decide) hvb.1 hvb.2) hfb dX9_put_27 ?_
        show W _ _ _ _ _ _ _ _ _ _ _ _ _ _ _ (F0 m 28 ls [.ref s1])
        refine lv_iload_n hx hb dX9_put_28 rfl (lv_at hl 2 rfl) ?_
        refine lv_iload_n hx hb dX9_put_29 rfl (lv_at hl 3 rfl) ?_
        refine lv_i2d hx hb dX9_put_30 ?_
        refine m_callv (va_runV (As := [.int i, .double (FP.i2d v)]) (rest := []) ⟨hx, hb, hml, hown, hts⟩ (c_X7_set l E M2 H.size s1 v1 n1 lane1 f1 i (FP.i2d v) (fin_i2d v) (vp_in_h hin (by omega)) g_s1 g_v1) (cwV 2 hts gX9_put_X7_set rfl rfl rfl (by decide +kernel) ⟨Nat.le_of_ble_eq_true rfl, Nat.le_of_ble_eq_true rfl⟩) (m_preV hE hM g_s1 rfl) rfl rfl hl.1 rfl (lv_room (Nat.le_of_ble_eq_true rfl)) dX9_put_31 ⟨Nat.le_of_ble_eq_true rfl, Nat.le_of_ble_eq_true rfl⟩) hM hS hA (fun M4 H locs hw hM hS => ?_)
        have eM4 := hw
        have g_x_ : M4 x = some (mO 7 [.ref a1, .ref a2, .ref a3, .ref a4, .int (nI nn), .int (nI nf), .int bd, .int 0, .int c2, .int c3, .int c4]) := by rw [eM4]; exact mUp_at (m_ne g_x g_v1 (by simp)) g_x
        have g_a1_ : M4 a1 = some (mQ E 4 12 fi) := by rw [eM4]; exact mUp_at (m_ne g_a1 g_v1 (by simp)) g_a1
        have g_a2_ : M4 a2 = some (mQ E 5 10 fb) := by rw [eM4]; exact mUp_at (m_ne g_a2 g_v1 (by simp)) g_a2
        have g_a3_ : M4 a3 = some (mQ E 6 8 ff) := by rw [eM4]; exact mUp_at (m_ne g_a3 g_v1 (by simp)) g_a3
        have g_a4_ : M4 a4 = some (mDb E 40 wt) := by rw [eM4]; exact mUp_at (Ne.symm hva1) g_a4
        have g_s1_ : M4 s1 = some (mO 5 [.int lane1, .ref v1]) := by rw [eM4]; exact mUp_at (m_ne g_s1 g_v1 (by simp)) g_s1
        have g_x := g_x_
        have g_a1 := g_a1_
        have g_a2 := g_a2_
        have g_a3 := g_a3_
        have g_a4 := g_a4_
        have g_s1 := g_s1_
        have g_v1 : M4 v1 = some (mDb E n1 (vf_upd f1 i.toNatClampNeg (sTurn lane1 (FP.i2d v)))) := by rw [eM4]; exact mUp_self _ _ _
        refine lv_iconst (v := 1) hx hb dX9_put_34 (by decide) ?_
        exact m_iret hx hb hr hlocks hM hS (Nat.le_refl _) (Nat.le_refl _) dX9_put_35 (by exact ⟨(by show _ = (if sAt bk rw b i = 0 then _ else _); rw [hsa]; rfl), (by show cRep E _ NO x (nn, ins, nf, fn, bk, rPut bk rw b i v, bd, sAt bk rw b i, c2, c3, c4); unfold rPut; rw [hsa, if_pos rfl, hjc1, hbk1]; show cRep E _ NO x (nn, ins, nf, fn, bk, va_up rw w1 ((rw w1).1, (rw w1).2.1, vf_upd (rw w1).2.2 i.toNatClampNeg (sTurn (rw w1).1 (FP.i2d v))), bd, 0, c2, c3, c4); rw [hrw1, eM4, eM2, ev1]; exact ((hC.scal hiK).row hiK (hL w1 hlv1) hrw1).rep), (by rw [eM4, eM2, ev1]; exact (kx nx).up hnr1.2)⟩)
      · have hsa : sAt bk rw b i = -7 := by rw [sAt_s hvb hjc1 hbk1 hrw1, if_neg hin]
        refine m_calli (va_runV (As := [.int b, .int i]) (rest := [.ref x]) ⟨hx, hb, hml, hown, hts⟩ (c_X9_place_s l E M H.size x a1 a2 a3 a4 nn nf bd st c2 c3 c4 fi fb ff wt s1 v1 n1 lane1 f1 b i hvb hfb g_x g_a2 g_s1 g_v1) (cwV 2 hts gX9_put_X9_againstPlace rfl rfl rfl (by decide +kernel) ⟨Nat.le_of_ble_eq_true rfl, Nat.le_of_ble_eq_true rfl⟩) (m_preV hE hM g_x rfl) rfl rfl hl.1 rfl (lv_room (Nat.le_of_ble_eq_true rfl)) dX9_put_4 ⟨Nat.le_of_ble_eq_true rfl, Nat.le_of_ble_eq_true rfl⟩) hM hS hA (fun r1 u H locs hw hM hS => ?_)
        obtain ⟨e_r1, eu⟩ := hw
        rw [eu] at hM
        rw [if_neg hin] at e_r1
        subst e_r1
        refine m_put (ci := 7) (v := .int (-7)) (ty := .int) (C := RX9) (T := TX9) (N := 11) hx hb hts in_X9_put_X9 tyX9 tyX9_ok nmX9 hown hE hM hS g_x rfl 7 (by decide) (hts (.fieldLink RX9 53 "CallWays2" "latest" "I") (by decide +kernel)) (fun _ h9 => h9) rfl (by decide +kernel) rfl rfl (Nat.le_of_ble_eq_true rfl) dX9_put_7 (fun H locs hM hS => ?_)
        have hM : mOK E.1 (mA M sz) (mUp M x (mO 7 [.ref a1, .ref a2, .ref a3, .ref a4, .int (nI nn), .int (nI nf), .int bd, .int (-7), .int c2, .int c3, .int c4])) H := hM
        obtain ⟨M5, eM5⟩ : ∃ z, z = mUp M x (mO 7 [.ref a1, .ref a2, .ref a3, .ref a4, .int (nI nn), .int (nI nf), .int bd, .int (-7), .int c2, .int c3, .int c4]) := ⟨_, rfl⟩
        rw [← eM5] at hM
        have g_a1_ : M5 a1 = some (mQ E 4 12 fi) := by rw [eM5]; exact mUp_at (m_ne g_a1 g_x (by simp)) g_a1
        have g_a2_ : M5 a2 = some (mQ E 5 10 fb) := by rw [eM5]; exact mUp_at (m_ne g_a2 g_x (by simp)) g_a2
        have g_a3_ : M5 a3 = some (mQ E 6 8 ff) := by rw [eM5]; exact mUp_at (m_ne g_a3 g_x (by simp)) g_a3
        have g_a4_ : M5 a4 = some (mDb E 40 wt) := by rw [eM5]; exact mUp_at (m_ne g_a4 g_x (by simp)) g_a4
        have g_s1_ : M5 s1 = some (mO 5 [.int lane1, .ref v1]) := by rw [eM5]; exact mUp_at (m_ne g_s1 g_x (by simp)) g_s1
        have g_v1_ : M5 v1 = some (mDb E n1 f1) := by rw [eM5]; exact mUp_at (m_ne g_v1 g_x (by simp)) g_v1
        have g_a1 := g_a1_
        have g_a2 := g_a2_
        have g_a3 := g_a3_
        have g_a4 := g_a4_
        have g_s1 := g_s1_
        have g_v1 := g_v1_
        have g_x : M5 x = some (mO 7 [.ref a1, .ref a2, .ref a3, .ref a4, .int (nI nn), .int (nI nf), .int bd, .int (-7), .int c2, .int c3, .int c4]) := by rw [eM5]; exact mUp_self _ _ _
        refine lv_aload_n hx hb dX9_put_10 rfl (lv_at hl 0 rfl) ?_
        refine m_get (ci := 7) (v := .int (-7)) (C := RX9) (T := TX9) (N := 11) hx hb hts in_X9_put_X9 hown hE hM g_x rfl 7 (by decide) (hts (.fieldLink RX9 53 "CallWays2" "latest" "I") (by decide +kernel)) (fun _ h9 => h9) rfl dX9_put_11 ?_
        refine lv_if_eq (tgt := 22) hx hb dX9_put_14 (by decide) (fun h9 => absurd h9 (by decide)) (fun _ => ?_)
        refine lv_aload_n hx hb dX9_put_17 rfl (lv_at hl 0 rfl) ?_
        refine m_get (ci := 7) (v := .int (-7)) (C := RX9) (T := TX9) (N := 11) hx hb hts in_X9_put_X9 hown hE hM g_x rfl 7 (by decide) (hts (.fieldLink RX9 53 "CallWays2" "latest" "I") (by decide +kernel)) (fun _ h9 => h9) rfl dX9_put_18 ?_
        exact m_iret hx hb hr hlocks hM hS (Nat.le_refl _) (Nat.le_refl _) dX9_put_21 (by exact ⟨(by show _ = (if sAt bk rw b i = 0 then _ else _); rw [hsa]; rfl), (by show cRep E _ NO x (nn, ins, nf, fn, bk, rPut bk rw b i v, bd, sAt bk rw b i, c2, c3, c4); unfold rPut; rw [hsa, if_neg (by decide), eM5]; exact (hC.scal hiK).rep), (by rw [eM5]; exact kx nx)⟩)
  · have hsa : sAt bk rw b i = -1 := sAt_b hvb
    refine m_calli (va_runV (As := [.int b, .int i]) (rest := [.ref x]) ⟨hx, hb, hml, hown, hts⟩ (c_X9_place_b l E M H.size x a1 a2 a3 a4 nn nf bd st c2 c3 c4 fi fb ff wt b i hvb g_x g_a2) (cwV 2 hts gX9_put_X9_againstPlace rfl rfl rfl (by decide +kernel) ⟨Nat.le_of_ble_eq_true rfl, Nat.le_of_ble_eq_true rfl⟩) (m_preV hE hM g_x rfl) rfl rfl hl.1 rfl (lv_room (Nat.le_of_ble_eq_true rfl)) dX9_put_4 ⟨Nat.le_of_ble_eq_true rfl, Nat.le_of_ble_eq_true rfl⟩) hM hS hA (fun r1 u H locs hw hM hS => ?_)
    obtain ⟨e_r1, eu⟩ := hw
    rw [eu] at hM
    subst e_r1
    refine m_put (ci := 7) (v := .int (-1)) (ty := .int) (C := RX9) (T := TX9) (N := 11) hx hb hts in_X9_put_X9 tyX9 tyX9_ok nmX9 hown hE hM hS g_x rfl 7 (by decide) (hts (.fieldLink RX9 53 "CallWays2" "latest" "I") (by decide +kernel)) (fun _ h9 => h9) rfl (by decide +kernel) rfl rfl (Nat.le_of_ble_eq_true rfl) dX9_put_7 (fun H locs hM hS => ?_)
    have hM : mOK E.1 (mA M sz) (mUp M x (mO 7 [.ref a1, .ref a2, .ref a3, .ref a4, .int (nI nn), .int (nI nf), .int bd, .int (-1), .int c2, .int c3, .int c4])) H := hM
    obtain ⟨M6, eM6⟩ : ∃ z, z = mUp M x (mO 7 [.ref a1, .ref a2, .ref a3, .ref a4, .int (nI nn), .int (nI nf), .int bd, .int (-1), .int c2, .int c3, .int c4]) := ⟨_, rfl⟩
    rw [← eM6] at hM
    have g_a1_ : M6 a1 = some (mQ E 4 12 fi) := by rw [eM6]; exact mUp_at (m_ne g_a1 g_x (by simp)) g_a1
    have g_a2_ : M6 a2 = some (mQ E 5 10 fb) := by rw [eM6]; exact mUp_at (m_ne g_a2 g_x (by simp)) g_a2
    have g_a3_ : M6 a3 = some (mQ E 6 8 ff) := by rw [eM6]; exact mUp_at (m_ne g_a3 g_x (by simp)) g_a3
    have g_a4_ : M6 a4 = some (mDb E 40 wt) := by rw [eM6]; exact mUp_at (m_ne g_a4 g_x (by simp)) g_a4
    have g_a1 := g_a1_
    have g_a2 := g_a2_
    have g_a3 := g_a3_
    have g_a4 := g_a4_
    have g_x : M6 x = some (mO 7 [.ref a1, .ref a2, .ref a3, .ref a4, .int (nI nn), .int (nI nf), .int bd, .int (-1), .int c2, .int c3, .int c4]) := by rw [eM6]; exact mUp_self _ _ _
    refine lv_aload_n hx hb dX9_put_10 rfl (lv_at hl 0 rfl) ?_
    refine m_get (ci := 7) (v := .int (-1)) (C := RX9) (T := TX9) (N := 11) hx hb hts in_X9_put_X9 hown hE hM g_x rfl 7 (by decide) (hts (.fieldLink RX9 53 "CallWays2" "latest" "I") (by decide +kernel)) (fun _ h9 => h9) rfl dX9_put_11 ?_
    refine lv_if_eq (tgt := 22) hx hb dX9_put_14 (by decide) (fun h9 => absurd h9 (by decide)) (fun _ => ?_)
    refine lv_aload_n hx hb dX9_put_17 rfl (lv_at hl 0 rfl) ?_
    refine m_get (ci := 7) (v := .int (-1)) (C := RX9) (T := TX9) (N := 11) hx hb hts in_X9_put_X9 hown hE hM g_x rfl 7 (by decide) (hts (.fieldLink RX9 53 "CallWays2" "latest" "I") (by decide +kernel)) (fun _ h9 => h9) rfl dX9_put_18 ?_
    exact m_iret hx hb hr hlocks hM hS (Nat.le_refl _) (Nat.le_refl _) dX9_put_21 (by exact ⟨(by show _ = (if sAt bk rw b i = 0 then _ else _); rw [hsa]; rfl), (by show cRep E _ NO x (nn, ins, nf, fn, bk, rPut bk rw b i v, bd, sAt bk rw b i, c2, c3, c4); unfold rPut; rw [hsa, if_neg (by decide), eM6]; exact (hC.scal hiK).rep), (by rw [eM6]; exact kx nx)⟩)
