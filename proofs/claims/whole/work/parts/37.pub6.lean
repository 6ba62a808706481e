theorem in_X9_lend_X9 : ∀ w ∈ wsX90, w ∈ wsX9_lend := by decide +kernel
set_option maxHeartbeats 4000000 in
set_option maxRecDepth 100000 in
theorem c_X9_lend (l : Launch) (E : mEnv) (M : mMem) (sz : Nat) (NO : Nat → Prop) (x nn nf : Nat) (ins : Nat → sIn) (fn : Nat → Int32 × Int32) (bk : Nat → Option Nat) (rw : Nat → sRw) (bd st c2 c3 c4 : Int32) (hV : Inv (nn, ins, nf, fn, bk, rw, bd, st, c2, c3, c4)) (hC : cRep E M NO x (nn, ins, nf, fn, bk, rw, bd, st, c2, c3, c4)) (hO : ∀ q, NO q → M q ≠ none) (b fr o : Int32)    : Met l yX9_lend wsX9_lend ({ frames := 4, cells := 2, slots := 42, locals := 75 }) (mPre E M sz [.ref x, .int b, .int fr, .int o]) (mQi E M sz (fun r u => r = aLend (nn, ins, nf, fn, bk, rw, bd, st, c2, c3, c4) b fr o ∧ cRep E u NO x (nLend (nn, ins, nf, fn, bk, rw, bd, st, c2, c3, c4) b fr o) ∧ kept NO M u)) (2) (42) (mA M sz) := by
  refine m_met [.ref x, .int b, .int fr, .int o] (by decide) rfl (Nat.le_of_ble_eq_true rfl) ?_
  intro p e s m below meth c ls H eH hx hb hr hts hown hlocks hnm hml hsz hE hM hS hA hl
  have hl : lv_has ls 5 [(0, .ref x), (1, .int b), (2, .int fr), (3, .int o)] := hl
  obtain ⟨a1, a2, a3, a4, fi, fb, ff, wt, ia, ib, fa, ra, rb, fl, LV, hC⟩ := hC
  have hC0 := hC.rep
  have hiK := hV.insK
  obtain ⟨hnn, hnf, hvI, hvD, hv24, hvR, hvF⟩ := id hV
  obtain ⟨⟨g_x, g_a1, g_a2, g_a3, g_a4⟩, hI, hF, hB, hL, hR, hJ, hN⟩ := id hC
  obtain ⟨⟨nx, n1, n2, n3, n4⟩, nI0, nF0, nR0⟩ := id hN
  have g_a20 := g_a2
  refine lv_iload_n hx hb dX9_lend_0 rfl (lv_at hl 1 rfl) ?_
  refine m_calli (va_runS (As := [.int b]) (rest := []) ⟨hx, hb, hml, hown, hts⟩ (c_X9_isBlock l E M H.size b) (va_cwS 1 hts gX9_lend_X9_isBlock rfl rfl rfl (by decide +kernel) ⟨Nat.le_of_ble_eq_true rfl, Nat.le_of_ble_eq_true rfl⟩) (m_preS hE hM) rfl rfl hl.1 rfl (lv_room (Nat.le_of_ble_eq_true rfl)) dX9_lend_1 ⟨(by show 0 + 0 ≤ 2; omega), (by show 0 + 0 ≤ 42; omega)⟩) hM hS hA (fun r0 u H locs hw hM hS => ?_)
  obtain ⟨e_r0, eu⟩ := hw
  rw [eu] at hM
  subst e_r0
  refine lv_if_eq (tgt := 14) hx hb dX9_lend_4 (by decide) (fun c_4 => ?_) (fun c_4 => ?_)
  · skip
    rw [bI_eq] at c_4
    have hz : ¬ (vB b ∧ vB fr) := na1 c_4
    refine lv_iconst (v := -1) hx hb dX9_lend_14 (by decide) ?_
    exact m_iret hx hb hr hlocks hM hS (by show 0 + 0 ≤ 2; omega) (by show 0 + 0 ≤ 42; omega) dX9_lend_15 (by exact ⟨(if_neg hz).symm, (by show cRep E _ NO x (if vB b ∧ vB fr then _ else _); rw [if_neg hz]; exact hC0), kept.rf⟩)
  · skip
    rw [bI_ne] at c_4
    refine lv_iload_n hx hb dX9_lend_7 rfl (lv_at hl 2 rfl) ?_
    refine m_calli (va_runS (As := [.int fr]) (rest := []) ⟨hx, hb, hml, hown, hts⟩ (c_X9_isBlock l E M H.size fr) (va_cwS 1 hts gX9_lend_X9_isBlock rfl rfl rfl (by decide +kernel) ⟨Nat.le_of_ble_eq_true rfl, Nat.le_of_ble_eq_true rfl⟩) (m_preS hE hM) rfl rfl hl.1 rfl (lv_room (Nat.le_of_ble_eq_true rfl)) dX9_lend_8 ⟨(by show 0 + 0 + 0 ≤ 2; omega), (by show 0 + 0 + 0 ≤ 42; omega)⟩) hM hS hA (fun r00 u H locs hw hM hS => ?_)
    obtain ⟨e_r00, eu⟩ := hw
    rw [eu] at hM
    subst e_r00
    refine lv_if_ne (tgt := 16) hx hb dX9_lend_11 (by decide) (fun c_11 => ?_) (fun c_11 => ?_)
    · skip
      rw [bI_ne] at c_11
      refine lv_aload_n hx hb dX9_lend_16 rfl (lv_at hl 0 rfl) ?_
      refine lv_iload_n hx hb dX9_lend_17 rfl (lv_at hl 2 rfl) ?_
      refine m_callq (va_runV (As := [.int fr]) (rest := []) ⟨hx, hb, hml, hown, hts⟩ (c_X9_heldBy l E M H.size x a1 a2 a3 a4 nn nf bd st c2 c3 c4 fi fb ff wt fr g_x g_a2) (cwV 1 hts gX9_lend_X9_heldBy rfl rfl rfl (by decide +kernel) ⟨Nat.le_of_ble_eq_true rfl, Nat.le_of_ble_eq_true rfl⟩) (m_preV hE hM g_x rfl) rfl rfl hl.1 rfl (lv_room (Nat.le_of_ble_eq_true rfl)) dX9_lend_18 ⟨(by show 0 + 0 + 0 + 0 ≤ 2; omega), (by show 0 + 0 + 0 + 0 ≤ 42; omega)⟩) hM hS hA (fun r1 u H locs hw hM hS => ?_)
      obtain ⟨e_r1, eu⟩ := hw
      rw [eu] at hM
      rw [if_pos c_11] at e_r1
      obtain ⟨j1, hj1, hij1, hjc1⟩ := vB_ix c_11
      rw [hjc1, hB j1 hj1] at e_r1
      rcases hbk1 : bk j1 with _ | w1
      · rw [hbk1] at e_r1
        replace e_r1 : r1 = none := e_r1
        subst e_r1
        refine W.eq (g2 := F0 m 21 ls [.null]) rfl ?_
        refine lv_astoreN (lv' := [(4, .null), (0, .ref x), (1, .int b), (2, .int fr), (3, .int o)]) hx hb dX9_lend_21 hl (by decide) rfl (fun ls hl => ?_)
        refine lv_aloadN hx hb dX9_lend_23 (lv_at hl 0 rfl) ?_
        refine lv_ifnonnullN hx hb dX9_lend_25 ?_
        refine lv_iload_n hx hb dX9_lend_28 rfl (lv_at hl 4 rfl) ?_
        refine lv_if_ne (tgt := 35) hx hb dX9_lend_29 (by decide) (fun c_29 => ?_) (fun c_29 => ?_)
        · skip
          refine lv_aload_n hx hb dX9_lend_35 rfl (lv_at hl 1 rfl) ?_
          refine m_get (ci := 7) (v := .ref a2) (C := RX9) (T := TX9) (N := 11) hx hb hts in_X9_lend_X9 hown hE hM g_x rfl 1 (by decide) (hts (.fieldLink RX9 17 "CallWays2" "blocks" "[LCallWays2$Samples;") (by decide +kernel)) (fun _ h9 => h9) rfl dX9_lend_36 ?_
          refine lv_iload_n hx hb dX9_lend_39 rfl (lv_at hl 2 rfl) ?_
          refine lv_aloadN hx hb dX9_lend_40 (lv_at hl 0 rfl) ?_
          refine lv_iload_n hx hb dX9_lend_42 rfl (lv_at hl 4 rfl) ?_
          refine m_callq (va_runS (As := [.null, .int o]) (rest := [.int b, .ref a2]) ⟨hx, hb, hml, hown, hts⟩ (c_X9_lot_n l E M H.size o) (va_cwS 2 hts gX9_lend_X9_lentOrTwin rfl rfl rfl (by decide +kernel) ⟨Nat.le_of_ble_eq_true rfl, Nat.le_of_ble_eq_true rfl⟩) (m_preS hE hM) rfl rfl hl.1 rfl (lv_room (Nat.le_of_ble_eq_true rfl)) dX9_lend_43 ⟨(by show 0 + 0 + 0 + 0 + 2 ≤ 2; omega), (by show 0 + 0 + 0 + 0 + 42 ≤ 42; omega)⟩) hM hS hA (fun r9 u H locs hw hM hS => ?_)
          obtain ⟨e_r9, eu⟩ := hw
          rw [eu] at hM
          subst e_r9
          refine W.eq (g2 := F0 m 46 ls [.null, .int b, .ref a2]) rfl ?_
          refine m_qastN (B := "CallWays2$Samples") hx hb hE hM hS 5 g_a2 rfl (in_lit (N := 10) (by decide) c_4.1 c_4.2) dX9_lend_46 (fun H locs hM hS => ?_)
          have hM : mOK E.1 (mA M sz) (mUp M a2 (mQ E 5 10 (va_up fb b.toNatClampNeg none))) H := hM
          obtain ⟨M1, eM1⟩ : ∃ z, z = mUp M a2 (mQ E 5 10 (va_up fb b.toNatClampNeg none)) := ⟨_, rfl⟩
          rw [← eM1] at hM
          have g_x_ : M1 x = some (mO 7 [.ref a1, .ref a2, .ref a3, .ref a4, .int (nI nn), .int (nI nf), .int bd, .int st, .int c2, .int c3, .int c4]) := by rw [eM1]; exact mUp_at (m_ne g_x g_a2 (by simp)) g_x
          have g_a1_ : M1 a1 = some (mQ E 4 12 fi) := by rw [eM1]; exact mUp_at (m_ne g_a1 g_a2 (by simp)) g_a1
          have g_a3_ : M1 a3 = some (mQ E 6 8 ff) := by rw [eM1]; exact mUp_at (m_ne g_a3 g_a2 (by simp)) g_a3
          have g_a4_ : M1 a4 = some (mDb E 40 wt) := by rw [eM1]; exact mUp_at (m_ne g_a4 g_a2 (by simp)) g_a4
          have g_x := g_x_
          have g_a1 := g_a1_
          have g_a3 := g_a3_
          have g_a4 := g_a4_
          have g_a2 : M1 a2 = some (mQ E 5 10 (va_up fb b.toNatClampNeg none)) := by rw [eM1]; exact mUp_self _ _ _
          refine lv_iconst (v := 1) hx hb dX9_lend_47 (by decide) ?_
          exact m_iret hx hb hr hlocks hM hS (by show 0 + 0 + 0 + 0 + 2 ≤ 2; omega) (by show 0 + 0 + 0 + 0 + 42 ≤ 42; omega) dX9_lend_48 (by exact ⟨(by show _ = (if vB b ∧ vB fr then (if bk fr.toNatClampNeg = none ∧ o = 0 then _ else _) else _); rw [if_pos ⟨c_4, c_11⟩, if_neg (na2 c_29)]), (by show cRep E _ NO x (if vB b ∧ vB fr then (if o = 0 then _ else _) else _); rw [if_pos ⟨c_4, c_11⟩]; obtain ⟨j, hj, hij, hjc⟩ := vB_ix c_4; rw [if_neg c_29, hjc, hjc1, hbk1, eM1, hjc]; exact (hC.setB (j := j) (o := none) hiK (fun r hr => by cases hr)).rep), (by rw [eM1]; exact kx n2)⟩)
        · skip
          refine lv_bipush (v := -5) hx hb dX9_lend_32 (by decide) ?_
          exact m_iret hx hb hr hlocks hM hS (by show 0 + 0 + 0 + 0 ≤ 2; omega) (by show 0 + 0 + 0 + 0 ≤ 42; omega) dX9_lend_34 (by exact ⟨(by show _ = (if vB b ∧ vB fr then (if bk fr.toNatClampNeg = none ∧ o = 0 then _ else _) else _); rw [if_pos ⟨c_4, c_11⟩, if_pos ⟨by rw [hjc1]; exact hbk1, c_29⟩]), (by show cRep E _ NO x (if vB b ∧ vB fr then (if o = 0 then _ else _) else _); rw [if_pos ⟨c_4, c_11⟩, if_pos c_29, hjc1, hbk1]; exact hC0), kept.rf⟩)
      · rw [hbk1] at e_r1
        replace e_r1 : r1 = some (ra w1) := e_r1
        have hlv1 : live nn ins bk w1 := Or.inl ⟨j1, hj1, hbk1⟩
        rcases hrw1 : rw w1 with ⟨lane1, n1, f1⟩
        obtain ⟨g_s1, g_v1, hva1⟩ := hR w1 (hL w1 hlv1) _ _ _ hrw1
        obtain ⟨hn1, hlane1, hvo1⟩ := hvR w1 hlv1 _ _ _ hrw1
        have hnr1 := nR0 w1 (hL w1 hlv1)
        obtain ⟨s1, es1⟩ : ∃ z, z = ra w1 := ⟨_, rfl⟩
        obtain ⟨v1, ev1⟩ : ∃ z, z = rb w1 := ⟨_, rfl⟩
        rw [← es1, ← ev1] at g_s1
        rw [← ev1] at g_v1 hva1
        rw [← es1] at e_r1
        subst e_r1
        refine W.eq (g2 := F0 m 21 ls [.ref s1]) rfl ?_
        refine lv_astore (lv' := [(4, .ref s1), (0, .ref x), (1, .int b), (2, .int fr), (3, .int o)]) hx hb dX9_lend_21 hl (by decide) rfl (fun ls hl => ?_)
        refine lv_aload hx hb dX9_lend_23 (lv_at hl 0 rfl) ?_
        refine lv_ifnonnull (tgt := 35) hx hb dX9_lend_25 (by decide) ?_
        refine lv_aload_n hx hb dX9_lend_35 rfl (lv_at hl 1 rfl) ?_
        refine m_get (ci := 7) (v := .ref a2) (C := RX9) (T := TX9) (N := 11) hx hb hts in_X9_lend_X9 hown hE hM g_x rfl 1 (by decide) (hts (.fieldLink RX9 17 "CallWays2" "blocks" "[LCallWays2$Samples;") (by decide +kernel)) (fun _ h9 => h9) rfl dX9_lend_36 ?_
        refine lv_iload_n hx hb dX9_lend_39 rfl (lv_at hl 2 rfl) ?_
        refine lv_aload hx hb dX9_lend_40 (lv_at hl 0 rfl) ?_
        refine lv_iload_n hx hb dX9_lend_42 rfl (lv_at hl 4 rfl) ?_
        by_cases ho : o = 0
        · skip
          refine m_callq (va_runS (As := [.ref s1, .int o]) (rest := [.int b, .ref a2]) ⟨hx, hb, hml, hown, hts⟩ (c_X9_lot_t l E M H.size s1 v1 n1 lane1 f1 hn1 o ho g_s1 g_v1) (va_cwS 2 hts gX9_lend_X9_lentOrTwin rfl rfl rfl (by decide +kernel) ⟨Nat.le_of_ble_eq_true rfl, Nat.le_of_ble_eq_true rfl⟩) (m_preS hE hM) rfl rfl hl.1 rfl (lv_room (Nat.le_of_ble_eq_true rfl)) dX9_lend_43 ⟨(by show 0 + 0 + 0 + 0 + 2 ≤ 2; omega), (by show 0 + 0 + 0 + 0 + 42 ≤ 42; omega)⟩) hM hS hA (fun r9 M2 H locs hw hM hS => ?_)
          obtain ⟨a, v, e_r9, na, nv, nav, eM2⟩ := hw
          subst e_r9
          replace g_x : M2 x = some (mO 7 [.ref a1, .ref a2, .ref a3, .ref a4, .int (nI nn), .int (nI nf), .int bd, .int st, .int c2, .int c3, .int c4]) := by rw [eM2]; exact mUp_at (m_neN g_x na) (mUp_at (m_neN g_x nv) g_x)
          replace g_a1 : M2 a1 = some (mQ E 4 12 fi) := by rw [eM2]; exact mUp_at (m_neN g_a1 na) (mUp_at (m_neN g_a1 nv) g_a1)
          replace g_a2 : M2 a2 = some (mQ E 5 10 fb) := by rw [eM2]; exact mUp_at (m_neN g_a2 na) (mUp_at (m_neN g_a2 nv) g_a2)
          replace g_a3 : M2 a3 = some (mQ E 6 8 ff) := by rw [eM2]; exact mUp_at (m_neN g_a3 na) (mUp_at (m_neN g_a3 nv) g_a3)
          replace g_a4 : M2 a4 = some (mDb E 40 wt) := by rw [eM2]; exact mUp_at (m_neN g_a4 na) (mUp_at (m_neN g_a4 nv) g_a4)
          replace g_s1 : M2 s1 = some (mO 5 [.int lane1, .ref v1]) := by rw [eM2]; exact mUp_at (m_neN g_s1 na) (mUp_at (m_neN g_s1 nv) g_s1)
          replace g_v1 : M2 v1 = some (mDb E n1 f1) := by rw [eM2]; exact mUp_at (m_neN g_v1 na) (mUp_at (m_neN g_v1 nv) g_v1)
          have g_a : M2 a = some (mO 5 [.int lane1, .ref v]) := by rw [eM2]; exact mUp_self _ _ _
          refine W.eq (g2 := F0 m 46 ls [.ref a, .int b, .ref a2]) rfl ?_
          refine m_qast hx hb hE hM hS 5 g_a2 rfl g_a rfl (in_lit (N := 10) (by decide) c_4.1 c_4.2) dX9_lend_46 (fun H locs hM hS => ?_)
          have hM : mOK E.1 (mA M sz) (mUp M2 a2 (mQ E 5 10 (va_up fb b.toNatClampNeg (some a)))) H := hM
          obtain ⟨M3, eM3⟩ : ∃ z, z = mUp M2 a2 (mQ E 5 10 (va_up fb b.toNatClampNeg (some a))) := ⟨_, rfl⟩
          rw [← eM3] at hM
          have g_x_ : M3 x = some (mO 7 [.ref a1, .ref a2, .ref a3, .ref a4, .int (nI nn), .int (nI nf), .int bd, .int st, .int c2, .int c3, .int c4]) := by rw [eM3]; exact mUp_at (m_ne g_x g_a2 (by simp)) g_x
          have g_a1_ : M3 a1 = some (mQ E 4 12 fi) := by rw [eM3]; exact mUp_at (m_ne g_a1 g_a2 (by simp)) g_a1
          have g_a3_ : M3 a3 = some (mQ E 6 8 ff) := by rw [eM3]; exact mUp_at (m_ne g_a3 g_a2 (by simp)) g_a3
          have g_a4_ : M3 a4 = some (mDb E 40 wt) := by rw [eM3]; exact mUp_at (m_ne g_a4 g_a2 (by simp)) g_a4
          have g_s1_ : M3 s1 = some (mO 5 [.int lane1, .ref v1]) := by rw [eM3]; exact mUp_at (m_ne g_s1 g_a2 (by simp)) g_s1
          have g_v1_ : M3 v1 = some (mDb E n1 f1) := by rw [eM3]; exact mUp_at (m_ne g_v1 g_a2 (by simp)) g_v1
          have g_a_ : M3 a = some (mO 5 [.int lane1, .ref v]) := by rw [eM3]; exact mUp_at (m_ne g_a g_a2 (by simp)) g_a
          have g_x := g_x_
          have g_a1 := g_a1_
          have g_a3 := g_a3_
          have g_a4 := g_a4_
          have g_s1 := g_s1_
          have g_v1 := g_v1_
          have g_a := g_a_
          have g_a2 : M3 a2 = some (mQ E 5 10 (va_up fb b.toNatClampNeg (some a))) := by rw [eM3]; exact mUp_self _ _ _
          refine lv_iconst (v := 1) hx hb dX9_lend_47 (by decide) ?_
          exact m_iret hx hb hr hlocks hM hS (by show 0 + 0 + 0 + 0 + 2 ≤ 2; omega) (by show 0 + 0 + 0 + 0 + 42 ≤ 42; omega) dX9_lend_48 (by exact ⟨(by show _ = (if vB b ∧ vB fr then (if bk fr.toNatClampNeg = none ∧ o = 0 then _ else _) else _); rw [if_pos ⟨c_4, c_11⟩, if_neg (na1 (by rw [hjc1, hbk1]; exact fun z => by cases z))]), (by
      show cRep E _ NO x (if vB b ∧ vB fr then (if o = 0 then _ else _) else _); rw [if_pos ⟨c_4, c_11⟩]; obtain ⟨j, hj, hij, hjc⟩ := vB_ix c_4; rw [if_pos ho, hjc, hjc1, hbk1]
      show cRep E _ NO x (nn, ins, nf, fn, va_up bk j (some (fresh bk (tbs ins))), va_up rw (fresh bk (tbs ins)) (rw w1), bd, st, c2, c3, c4)
      have h2 := hC.shrink (L2 := live nn ins bk) (fun _ h => h) hL
      have h3 := h2.addR (a := a) (v := v) (r := fresh bk (tbs ins)) (n := n1) (lane := lane1) (f := f1) hiK na nv nav hO (fresh_nl hnn)
      have h4 := h3.setB (j := j) (o := some (fresh bk (tbs ins))) hiK (fun r hr => Or.inr (Option.some.inj hr).symm)
      rw [hrw1, eM3, eM2, hjc]
      have h5 := h4.rep
      simp only [Option.map_some, va_up_self] at h5
      exact h5), (by rw [eM3, eM2]; exact ((kept.rf.up (fun z => hO v z nv)).up (fun z => hO a z na)).up n2)⟩)
        · skip
          refine m_callq (va_runS (As := [.ref s1, .int o]) (rest := [.int b, .ref a2]) ⟨hx, hb, hml, hown, hts⟩ (c_X9_lot_l l E M H.size s1 o ho) (va_cwS 2 hts gX9_lend_X9_lentOrTwin rfl rfl rfl (by decide +kernel) ⟨Nat.le_of_ble_eq_true rfl, Nat.le_of_ble_eq_true rfl⟩) (m_preS hE hM) rfl rfl hl.1 rfl (lv_room (Nat.le_of_ble_eq_true rfl)) dX9_lend_43 ⟨(by show 0 + 0 + 0 + 0 + 2 ≤ 2; omega), (by show 0 + 0 + 0 + 0 + 42 ≤ 42; omega)⟩) hM hS hA (fun r9 u H locs hw hM hS => ?_)
          obtain ⟨e_r9, eu⟩ := hw
          rw [eu] at hM
          subst e_r9
          refine W.eq (g2 := F0 m 46 ls [.ref s1, .int b, .ref a2]) rfl ?_
          refine m_qast hx hb hE hM hS 5 g_a2 rfl g_s1 rfl (in_lit (N := 10) (by decide) c_4.1 c_4.2) dX9_lend_46 (fun H locs hM hS => ?_)
          have hM : mOK E.1 (mA M sz) (mUp M a2 (mQ E 5 10 (va_up fb b.toNatClampNeg (some s1)))) H := hM
          obtain ⟨M4, eM4⟩ : ∃ z, z = mUp M a2 (mQ E 5 10 (va_up fb b.toNatClampNeg (some s1))) := ⟨_, rfl⟩
          rw [← eM4] at hM
          have g_x_ : M4 x = some (mO 7 [.ref a1, .ref a2, .ref a3, .ref a4, .int (nI nn), .int (nI nf), .int bd, .int st, .int c2, .int c3, .int c4]) := by rw [eM4]; exact mUp_at (m_ne g_x g_a2 (by simp)) g_x
          have g_a1_ : M4 a1 = some (mQ E 4 12 fi) := by rw [eM4]; exact mUp_at (m_ne g_a1 g_a2 (by simp)) g_a1
          have g_a3_ : M4 a3 = some (mQ E 6 8 ff) := by rw [eM4]; exact mUp_at (m_ne g_a3 g_a2 (by simp)) g_a3
          have g_a4_ : M4 a4 = some (mDb E 40 wt) := by rw [eM4]; exact mUp_at (m_ne g_a4 g_a2 (by simp)) g_a4
          have g_s1_ : M4 s1 = some (mO 5 [.int lane1, .ref v1]) := by rw [eM4]; exact mUp_at (m_ne g_s1 g_a2 (by simp)) g_s1
          have g_v1_ : M4 v1 = some (mDb E n1 f1) := by rw [eM4]; exact mUp_at (m_ne g_v1 g_a2 (by simp)) g_v1
          have g_x := g_x_
          have g_a1 := g_a1_
          have g_a3 := g_a3_
          have g_a4 := g_a4_
          have g_s1 := g_s1_
          have g_v1 := g_v1_
          have g_a2 : M4 a2 = some (mQ E 5 10 (va_up fb b.toNatClampNeg (some s1))) := by rw [eM4]; exact mUp_self _ _ _
          refine lv_iconst (v := 1) hx hb dX9_lend_47 (by decide) ?_
          exact m_iret hx hb hr hlocks hM hS (by show 0 + 0 + 0 + 0 + 2 ≤ 2; omega) (by show 0 + 0 + 0 + 0 + 42 ≤ 42; omega) dX9_lend_48 (by exact ⟨(by show _ = (if vB b ∧ vB fr then (if bk fr.toNatClampNeg = none ∧ o = 0 then _ else _) else _); rw [if_pos ⟨c_4, c_11⟩, if_neg (na2 ho)]), (by show cRep E _ NO x (if vB b ∧ vB fr then (if o = 0 then _ else _) else _); rw [if_pos ⟨c_4, c_11⟩]; obtain ⟨j, hj, hij, hjc⟩ := vB_ix c_4; rw [if_neg ho, hjc, hjc1, hbk1, eM4, hjc, es1]; exact (hC.setB (j := j) (o := some w1) hiK (fun r hr => by cases hr; exact hL w1 hlv1)).rep), (by rw [eM4]; exact kx n2)⟩)
    · skip
      rw [bI_eq] at c_11
      have hz : ¬ (vB b ∧ vB fr) := na2 c_11
      refine lv_iconst (v := -1) hx hb dX9_lend_14 (by decide) ?_
      exact m_iret hx hb hr hlocks hM hS (by show 0 + 0 + 0 ≤ 2; omega) (by show 0 + 0 + 0 ≤ 42; omega) dX9_lend_15 (by exact ⟨(if_neg hz).symm, (by show cRep E _ NO x (if vB b ∧ vB fr then _ else _); rw [if_neg hz]; exact hC0), kept.rf⟩)
abbrev vT (nn : Nat) (i b : Int32) : Prop := vI nn i ∧ (b = -1 ∨ vB b)
def insT (ins : Nat → sIn) (j : Nat) (o : Option Nat) : Nat → sIn := va_up ins j ((ins j).1, (ins j).2.1, (ins j).2.2.1, (ins j).2.2.2.1, (ins j).2.2.2.2.1, (ins j).2.2.2.2.2.1, o)
def aTable (σ : Sg) (i b o : Int32) : Int32 := match σ with | (nn, _) => if vT nn i b then 1 else -1
def nTable (σ : Sg) (i b o : Int32) : Sg := match σ with | (nn, ins, nf, fn, bk, rw, bd, st, c2, c3, c4) => if vT nn i b then (match (if vB b then bk b.toNatClampNeg else none) with | none => (nn, insT ins i.toNatClampNeg none, nf, fn, bk, rw, bd, st, c2, c3, c4) | some r => if o = 0 then (nn, insT ins i.toNatClampNeg (some (fresh bk (tbs (insT ins i.toNatClampNeg none)))), nf, fn, bk, va_up rw (fresh bk (tbs (insT ins i.toNatClampNeg none))) (rw r), bd, st, c2, c3, c4) else (nn, insT ins i.toNatClampNeg (some r), nf, fn, bk, rw, bd, st, c2, c3, c4)) else (nn, ins, nf, fn, bk, rw, bd, st, c2, c3, c4)
theorem in_X9_table_I : ∀ w ∈ wsX00 ++ wsX20 ++ wsX40 ++ wsX60 ++ wsX80, w ∈ wsX9_table := by decide +kernel
set_option maxHeartbeats 4000000 in
set_option maxRecDepth 100000 in
theorem c_X9_table (l : Launch) (E : mEnv) (M : mMem) (sz : Nat) (NO : Nat → Prop) (x nn nf : Nat) (ins : Nat → sIn) (fn : Nat → Int32 × Int32) (bk : Nat → Option Nat) (rw : Nat → sRw) (bd st c2 c3 c4 : Int32) (hV : Inv (nn, ins, nf, fn, bk, rw, bd, st, c2, c3, c4)) (hC : cRep E M NO x (nn, ins, nf, fn, bk, rw, bd, st, c2, c3, c4)) (hO : ∀ q, NO q → M q ≠ none) (i b o : Int32)    : Met l yX9_table wsX9_table ({ frames := 4, cells := 2, slots := 42, locals := 75 }) (mPre E M sz [.ref x, .int i, .int b, .int o]) (mQi E M sz (fun r u => r = aTable (nn, ins, nf, fn, bk, rw, bd, st, c2, c3, c4) i b o ∧ cRep E u NO x (nTable (nn, ins, nf, fn, bk, rw, bd, st, c2, c3, c4) i b o) ∧ kept NO M u)) (2) (42) (mA M sz) := by
  refine m_met [.ref x, .int i, .int b, .int o] (by decide) rfl (Nat.le_of_ble_eq_true rfl) ?_
  intro p e s m below meth c ls H eH hx hb hr hts hown hlocks hnm hml hsz hE hM hS hA hl
  have hl : lv_has ls 5 [(0, .ref x), (1, .int i), (2, .int b), (3, .int o)] := hl
  obtain ⟨a1, a2, a3, a4, fi, fb, ff, wt, ia, ib, fa, ra, rb, fl, LV, hC⟩ := hC
  have hC0 := hC.rep
  have hiK := hV.insK
  obtain ⟨hnn, hnf, hvI, hvD, hv24, hvR, hvF⟩ := id hV
  obtain ⟨⟨g_x, g_a1, g_a2, g_a3, g_a4⟩, hI, hF, hB, hL, hR, hJ, hN⟩ := id hC
  obtain ⟨⟨nx, n1, n2, n3, n4⟩, nI0, nF0, nR0⟩ := id hN
  have g_a20 := g_a2
  refine lv_aload_n hx hb dX9_table_0 rfl (lv_at hl 0 rfl) ?_
  refine lv_iload_n hx hb dX9_table_1 rfl (lv_at hl 1 rfl) ?_
  refine m_callq (va_runV (As := [.int i]) (rest := []) ⟨hx, hb, hml, hown, hts⟩ (c_X9_instrumentAt l E M H.size x a1 a2 a3 a4 nn nf bd st c2 c3 c4 fi fb ff wt i hnn g_x g_a1) (cwV 1 hts gX9_table_X9_instrumentAt rfl rfl rfl (by decide +kernel) ⟨Nat.le_of_ble_eq_true rfl, Nat.le_of_ble_eq_true rfl⟩) (m_preV hE hM g_x rfl) rfl rfl hl.1 rfl (lv_room (Nat.le_of_ble_eq_true rfl)) dX9_table_2 ⟨(by show 0 + 0 ≤ 2; omega), (by show 0 + 0 ≤ 42; omega)⟩) hM hS hA (fun r1 u H locs hw hM hS => ?_)
  obtain ⟨e_r1, eu⟩ := hw
  rw [eu] at hM
  by_cases hv : ¬ i < 0 ∧ ¬ nI nn ≤ i
  · rw [if_pos hv] at e_r1
    obtain ⟨j, hj, hij, hjc⟩ := vI_ix hv hnn
    rw [hjc] at e_r1
    rcases hins : ins j with ⟨ci, kf, pi, on, ph, le, tb⟩
    obtain ⟨k1, g_p0, g_q0⟩ := hI j hj _ _ _ _ _ _ _ hins
    obtain ⟨hci, hle, hon⟩ := hvI j hj _ _ _ _ _ _ _ hins
    have hno := nI0 j hj
    obtain ⟨p0, ep0⟩ : ∃ z, z = ia j := ⟨_, rfl⟩
    obtain ⟨q0, eq0⟩ : ∃ z, z = ib j := ⟨_, rfl⟩
    obtain ⟨f0, ef0⟩ : ∃ z, z = fl j := ⟨_, rfl⟩
    rw [← ep0] at k1 g_p0
    rw [← eq0, ← ef0] at g_p0
    rw [← eq0] at g_q0
    rw [k1] at e_r1
    subst e_r1
    refine W.eq (g2 := F0 m 5 ls [.ref p0]) rfl ?_
    refine lv_astore (lv' := [(4, .ref p0), (0, .ref x), (1, .int i), (2, .int b), (3, .int o)]) hx hb dX9_table_5 hl (by decide) rfl (fun ls hl => ?_)
    refine lv_aload hx hb dX9_table_7 (lv_at hl 0 rfl) ?_
    refine lv_ifnull hx hb dX9_table_9 ?_
    refine lv_iload_n hx hb dX9_table_12 rfl (lv_at hl 3 rfl) ?_
    refine lv_iconst (v := -1) hx hb dX9_table_13 (by decide) ?_
    refine lv_icmp_eq (tgt := 26) hx hb dX9_table_14 (by decide) (fun c_14 => ?_) (fun c_14 => ?_)
    · skip
      have hok : vT nn i b := ⟨hv, Or.inl c_14⟩
      have g_p00 := g_p0
      refine lv_aload hx hb dX9_table_26 (lv_at hl 0 rfl) ?_
      refine lv_aload_n hx hb dX9_table_28 rfl (lv_at hl 1 rfl) ?_
      refine lv_iload_n hx hb dX9_table_29 rfl (lv_at hl 3 rfl) ?_
      refine m_callq (va_runV (As := [.int b]) (rest := [.ref p0]) ⟨hx, hb, hml, hown, hts⟩ (c_X9_heldBy l E M H.size x a1 a2 a3 a4 nn nf bd st c2 c3 c4 fi fb ff wt b g_x g_a2) (cwV 1 hts gX9_table_X9_heldBy rfl rfl rfl (by decide +kernel) ⟨Nat.le_of_ble_eq_true rfl, Nat.le_of_ble_eq_true rfl⟩) (m_preV hE hM g_x rfl) rfl rfl hl.1 rfl (lv_room (Nat.le_of_ble_eq_true rfl)) dX9_table_30 ⟨(by show 0 + 0 + 0 ≤ 2; omega), (by show 0 + 0 + 0 ≤ 42; omega)⟩) hM hS hA (fun r2 u H locs hw hM hS => ?_)
      obtain ⟨e_r2, eu⟩ := hw
      rw [eu] at hM
      by_cases hv2 : ¬ b < 0 ∧ ¬ 10 ≤ b
      · rw [if_pos hv2] at e_r2
        obtain ⟨j2, hj2, hij2, hjc2⟩ := vB_ix hv2
        rw [hjc2, hB j2 hj2] at e_r2
        rcases hbk2 : bk j2 with _ | w2
        · rw [hbk2] at e_r2
          replace e_r2 : r2 = none := e_r2
          subst e_r2
          refine W.eq (g2 := F0 m 33 ls [.null, .ref p0]) rfl ?_
          refine lv_iload_n hx hb dX9_table_33 rfl (lv_at hl 4 rfl) ?_
          refine m_callq (va_runS (As := [.null, .int o]) (rest := [.ref p0]) ⟨hx, hb, hml, hown, hts⟩ (c_X9_lot_n l E M H.size o) (va_cwS 2 hts gX9_table_X9_lentOrTwin rfl rfl rfl (by decide +kernel) ⟨Nat.le_of_ble_eq_true rfl, Nat.le_of_ble_eq_true rfl⟩) (m_preS hE hM) rfl rfl hl.1 rfl (lv_room (Nat.le_of_ble_eq_true rfl)) dX9_table_34 ⟨(by show 0 + 0 + 0 + 2 ≤ 2; omega), (by show 0 + 0 + 0 + 42 ≤ 42; omega)⟩) hM hS hA (fun r9 u H locs hw hM hS => ?_)
          obtain ⟨e_r9, eu⟩ := hw
          rw [eu] at hM
          subst e_r9
          refine W.eq (g2 := F0 m 37 ls [.null, .ref p0]) rfl ?_
          refine m_putI (v := .null) (ty := .object "CallWays2$Samples") hx hb hts in_X9_table_I hown hE hM hS g_p0 hci 5 (by decide) (hts (.fieldLink RX9 75 "CallWays2$Instrument" "table" "LCallWays2$Samples;") (by decide +kernel)) (fun _ h9 => h9) rfl (by decide +kernel) rfl rfl (Nat.le_of_ble_eq_true rfl) dX9_table_37 (fun H locs hM hS => ?_)
          have hM : mOK E.1 (mA M sz) (mUp M p0 (mO ci [.ref q0, .int pi, .int on, .int ph, .double le, .null, .int f0])) H := hM
          obtain ⟨M1, eM1⟩ : ∃ z, z = mUp M p0 (mO ci [.ref q0, .int pi, .int on, .int ph, .double le, .null, .int f0]) := ⟨_, rfl⟩
          rw [← eM1] at hM
          have g_x_ : M1 x = some (mO 7 [.ref a1, .ref a2, .ref a3, .ref a4, .int (nI nn), .int (nI nf), .int bd, .int st, .int c2, .int c3, .int c4]) := by rw [eM1]; exact mUp_at (m_ne g_x g_p0 (by simp)) g_x
          have g_a1_ : M1 a1 = some (mQ E 4 12 fi) := by rw [eM1]; exact mUp_at (m_ne g_a1 g_p0 (by simp)) g_a1
          have g_a2_ : M1 a2 = some (mQ E 5 10 fb) := by rw [eM1]; exact mUp_at (m_ne g_a2 g_p0 (by simp)) g_a2
          have g_a3_ : M1 a3 = some (mQ E 6 8 ff) := by rw [eM1]; exact mUp_at (m_ne g_a3 g_p0 (by simp)) g_a3
          have g_a4_ : M1 a4 = some (mDb E 40 wt) := by rw [eM1]; exact mUp_at (m_ne g_a4 g_p0 (by simp)) g_a4
          have g_q0_ : M1 q0 = some (mI E 4 kf) := by rw [eM1]; exact mUp_at (m_ne g_q0 g_p0 (by simp)) g_q0
          have g_x := g_x_
          have g_a1 := g_a1_
          have g_a2 := g_a2_
          have g_a3 := g_a3_
          have g_a4 := g_a4_
          have g_q0 := g_q0_
          have g_p0 : M1 p0 = some (mO ci [.ref q0, .int pi, .int on, .int ph, .double le, .null, .int f0]) := by rw [eM1]; exact mUp_self _ _ _
          refine lv_iconst (v := 1) hx hb dX9_table_40 (by decide) ?_
          exact m_iret hx hb hr hlocks hM hS (by show 0 + 0 + 0 + 2 ≤ 2; omega) (by show 0 + 0 + 0 + 42 ≤ 42; omega) dX9_table_41 (by exact ⟨(if_pos hok).symm, (by show cRep E _ NO x (if vT nn i b then _ else _); rw [if_pos hok]; unfold insT; rw [hjc, hins]; rw [if_pos hv2, hjc2, hbk2]; rw [eM1, ep0, eq0, ef0]; exact (hC.setT hiK hj hins (o := none) (fun r hr => by cases hr)).rep), (by rw [eM1, ep0]; exact kx hno.1)⟩)
        · rw [hbk2] at e_r2
          replace e_r2 : r2 = some (ra w2) := e_r2
          have hlv2 : live nn ins bk w2 := Or.inl ⟨j2, hj2, hbk2⟩
          rcases hrw2 : rw w2 with ⟨lane2, n2, f2⟩
          obtain ⟨g_s2, g_v2, hva2⟩ := hR w2 (hL w2 hlv2) _ _ _ hrw2
          obtain ⟨hn2, hlane2, hvo2⟩ := hvR w2 hlv2 _ _ _ hrw2
          have hnr2 := nR0 w2 (hL w2 hlv2)
          obtain ⟨s2, es2⟩ : ∃ z, z = ra w2 := ⟨_, rfl⟩
          obtain ⟨v2, ev2⟩ : ∃ z, z = rb w2 := ⟨_, rfl⟩
          rw [← es2, ← ev2] at g_s2
          rw [← ev2] at g_v2 hva2
          rw [← es2] at e_r2
          subst e_r2
          refine W.eq (g2 := F0 m 33 ls [.ref s2, .ref p0]) rfl ?_
          refine lv_iload_n hx hb dX9_table_33 rfl (lv_at hl 4 rfl) ?_
          by_cases ho : o = 0
          · skip
            refine m_callq (va_runS (As := [.ref s2, .int o]) (rest := [.ref p0]) ⟨hx, hb, hml, hown, hts⟩ (c_X9_lot_t l E M H.size s2 v2 n2 lane2 f2 hn2 o ho g_s2 g_v2) (va_cwS 2 hts gX9_table_X9_lentOrTwin rfl rfl rfl (by decide +kernel) ⟨Nat.le_of_ble_eq_true rfl, Nat.le_of_ble_eq_true rfl⟩) (m_preS hE hM) rfl rfl hl.1 rfl (lv_room (Nat.le_of_ble_eq_true rfl)) dX9_table_34 ⟨(by show 0 + 0 + 0 + 2 ≤ 2; omega), (by show 0 + 0 + 0 + 42 ≤ 42; omega)⟩) hM hS hA (fun r9 M2 H locs hw hM hS => ?_)
            obtain ⟨a, v, e_r9, na, nv, nav, eM2⟩ := hw
            subst e_r9
            replace g_x : M2 x = some (mO 7 [.ref a1, .ref a2, .ref a3, .ref a4, .int (nI nn), .int (nI nf), .int bd, .int st, .int c2, .int c3, .int c4]) := by rw [eM2]; exact mUp_at (m_neN g_x na) (mUp_at (m_neN g_x nv) g_x)
            replace g_a1 : M2 a1 = some (mQ E 4 12 fi) := by rw [eM2]; exact mUp_at (m_neN g_a1 na) (mUp_at (m_neN g_a1 nv) g_a1)
            replace g_a2 : M2 a2 = some (mQ E 5 10 fb) := by rw [eM2]; exact mUp_at (m_neN g_a2 na) (mUp_at (m_neN g_a2 nv) g_a2)
            replace g_a3 : M2 a3 = some (mQ E 6 8 ff) := by rw [eM2]; exact mUp_at (m_neN g_a3 na) (mUp_at (m_neN g_a3 nv) g_a3)
            replace g_a4 : M2 a4 = some (mDb E 40 wt) := by rw [eM2]; exact mUp_at (m_neN g_a4 na) (mUp_at (m_neN g_a4 nv) g_a4)
            replace g_p0 : M2 p0 = some (mO ci [.ref q0, .int pi, .int on, .int ph, .double le, va_rf (tb.map ra), .int f0]) := by rw [eM2]; exact mUp_at (m_neN g_p0 na) (mUp_at (m_neN g_p0 nv) g_p0)
            replace g_q0 : M2 q0 = some (mI E 4 kf) := by rw [eM2]; exact mUp_at (m_neN g_q0 na) (mUp_at (m_neN g_q0 nv) g_q0)
            replace g_s2 : M2 s2 = some (mO 5 [.int lane2, .ref v2]) := by rw [eM2]; exact mUp_at (m_neN g_s2 na) (mUp_at (m_neN g_s2 nv) g_s2)
            replace g_v2 : M2 v2 = some (mDb E n2 f2) := by rw [eM2]; exact mUp_at (m_neN g_v2 na) (mUp_at (m_neN g_v2 nv) g_v2)
            have g_a : M2 a = some (mO 5 [.int lane2, .ref v]) := by rw [eM2]; exact mUp_self _ _ _
            refine W.eq (g2 := F0 m 37 ls [.ref a, .ref p0]) rfl ?_
            refine m_putI (v := .ref a) (ty := .object "CallWays2$Samples") hx hb hts in_X9_table_I hown hE hM hS g_p0 hci 5 (by decide) (hts (.fieldLink RX9 75 "CallWays2$Instrument" "table" "LCallWays2$Samples;") (by decide +kernel)) (fun _ h9 => h9) rfl (by decide +kernel) rfl rfl (Nat.le_of_ble_eq_true rfl) dX9_table_37 (fun H locs hM hS => ?_)
            have hM : mOK E.1 (mA M sz) (mUp M2 p0 (mO ci [.ref q0, .int pi, .int on, .int ph, .double le, .ref a, .int f0])) H := hM
            obtain ⟨M3, eM3⟩ : ∃ z, z = mUp M2 p0 (mO ci [.ref q0, .int pi, .int on, .int ph, .double le, .ref a, .int f0]) := ⟨_, rfl⟩
            rw [← eM3] at hM
            have g_x_ : M3 x = some (mO 7 [.ref a1, .ref a2, .ref a3, .ref a4, .int (nI nn), .int (nI nf), .int bd, .int st, .int c2, .int c3, .int c4]) := by rw [eM3]; exact mUp_at (m_ne g_x g_p0 (by simp)) g_x
            have g_a1_ : M3 a1 = some (mQ E 4 12 fi) := by rw [eM3]; exact mUp_at (m_ne g_a1 g_p0 (by simp)) g_a1
            have g_a2_ : M3 a2 = some (mQ E 5 10 fb) := by rw [eM3]; exact mUp_at (m_ne g_a2 g_p0 (by simp)) g_a2
            have g_a3_ : M3 a3 = some (mQ E 6 8 ff) := by rw [eM3]; exact mUp_at (m_ne g_a3 g_p0 (by simp)) g_a3
            have g_a4_ : M3 a4 = some (mDb E 40 wt) := by rw [eM3]; exact mUp_at (m_ne g_a4 g_p0 (by simp)) g_a4
            have g_q0_ : M3 q0 = some (mI E 4 kf) := by rw [eM3]; exact mUp_at (m_ne g_q0 g_p0 (by simp)) g_q0
            have g_s2_ : M3 s2 = some (mO 5 [.int lane2, .ref v2]) := by rw [eM3]; exact mUp_at (m_ne g_s2 g_p0 (fun z => by simp at z)) g_s2
            have g_v2_ : M3 v2 = some (mDb E n2 f2) := by rw [eM3]; exact mUp_at (m_ne g_v2 g_p0 (by simp)) g_v2
            have g_a_ : M3 a = some (mO 5 [.int lane2, .ref v]) := by rw [eM3]; exact mUp_at (m_ne g_a g_p0 (fun z => by simp at z)) g_a
            have g_x := g_x_
            have g_a1 := g_a1_
            have g_a2 := g_a2_
            have g_a3 := g_a3_
            have g_a4 := g_a4_
            have g_q0 := g_q0_
            have g_s2 := g_s2_
            have g_v2 := g_v2_
            have g_a := g_a_
            have g_p0 : M3 p0 = some (mO ci [.ref q0, .int pi, .int on, .int ph, .double le, .ref a, .int f0]) := by rw [eM3]; exact mUp_self _ _ _
            refine lv_iconst (v := 1) hx hb dX9_table_40 (by decide) ?_
            exact m_iret hx hb hr hlocks hM hS (by show 0 + 0 + 0 + 2 ≤ 2; omega) (by show 0 + 0 + 0 + 42 ≤ 42; omega) dX9_table_41 (by exact ⟨(if_pos hok).symm, (by
      show cRep E _ NO x (if vT nn i b then _ else _); rw [if_pos hok]; unfold insT; rw [hjc, hins]; rw [if_pos hv2, hjc2, hbk2]; show cRep E _ NO x (if o = 0 then _ else _)
      rw [if_pos ho]
      have hi2 := insK_up (j := j) (v := (ci, kf, pi, on, ph, le, none)) hiK (by rw [hins])
      have h1 := hC.setT hiK hj hins (o := none) (fun r hr => by cases hr)
      have h2 := h1.shrink (L2 := live nn (va_up ins j (ci, kf, pi, on, ph, le, none)) bk) (fun _ h => h) (by obtain ⟨_, _, _, _, hL1, _⟩ := h1; exact hL1)
      have h3 := h2.addR (a := a) (v := v) (r := fresh bk (tbs (va_up ins j (ci, kf, pi, on, ph, le, none)))) (n := n2) (lane := lane2) (f := f2) hi2 (mUp_no na (by rw [← ep0]; exact m_neN g_p00 na)) (mUp_no nv (by rw [← ep0]; exact m_neN g_p00 nv)) nav (hO_up hO) (fresh_nl hnn)
      have h4 := h3.setT hi2 hj (va_up_self _ _ _) (o := some (fresh bk (tbs (va_up ins j (ci, kf, pi, on, ph, le, none))))) (fun r hr => Or.inr (Option.some.inj hr).symm)
      show cRep E _ NO x (nn, va_up ins j (ci, kf, pi, on, ph, le, some (fresh bk (tbs (va_up ins j (ci, kf, pi, on, ph, le, none))))), nf, fn, bk, va_up rw (fresh bk (tbs (va_up ins j (ci, kf, pi, on, ph, le, none)))) (rw w2), bd, st, c2, c3, c4)
      rw [hrw2, eM3, eM2, ep0, eq0, ef0]
      rw [mUp_3 (by rw [← ep0]; exact m_neN g_p00 nv) (by rw [← ep0]; exact m_neN g_p00 na), va_up_twice] at h4
      have h5 := h4.rep
      simp only [Option.map_some, va_up_self] at h5
      exact h5), (by rw [eM3, eM2, ep0]; exact ((kept.rf.up (fun z => hO v z nv)).up (fun z => hO a z na)).up hno.1)⟩)
          · skip
            refine m_callq (va_runS (As := [.ref s2, .int o]) (rest := [.ref p0]) ⟨hx, hb, hml, hown, hts⟩ (c_X9_lot_l l E M H.size s2 o ho) (va_cwS 2 hts gX9_table_X9_lentOrTwin rfl rfl rfl (by decide +kernel) ⟨Nat.le_of_ble_eq_true rfl, Nat.le_of_ble_eq_true rfl⟩) (m_preS hE hM) rfl rfl hl.1 rfl (lv_room (Nat.le_of_ble_eq_true rfl)) dX9_table_34 ⟨(by show 0 + 0 + 0 + 2 ≤ 2; omega), (by show 0 + 0 + 0 + 42 ≤ 42; omega)⟩) hM hS hA (fun r9 u H locs hw hM hS => ?_)
            obtain ⟨e_r9, eu⟩ := hw
            rw [eu] at hM
            subst e_r9
            refine W.eq (g2 := F0 m 37 ls [.ref s2, .ref p0]) rfl ?_
            refine m_putI (v := .ref s2) (ty := .object "CallWays2$Samples") hx hb hts in_X9_table_I hown hE hM hS g_p0 hci 5 (by decide) (hts (.fieldLink RX9 75 "CallWays2$Instrument" "table" "LCallWays2$Samples;") (by decide +kernel)) (fun _ h9 => h9) rfl (by decide +kernel) rfl rfl (Nat.le_of_ble_eq_true rfl) dX9_table_37 (fun H locs hM hS => ?_)
            have hM : mOK E.1 (mA M sz) (mUp M p0 (mO ci [.ref q0, .int pi, .int on, .int ph, .double le, .ref s2, .int f0])) H := hM
            obtain ⟨M4, eM4⟩ : ∃ z, z = mUp M p0 (mO ci [.ref q0, .int pi, .int on, .int ph, .double le, .ref s2, .int f0]) := ⟨_, rfl⟩
            rw [← eM4] at hM
            have g_x_ : M4 x = some (mO 7 [.ref a1, .ref a2, .ref a3, .ref a4, .int (nI nn), .int (nI nf), .int bd, .int st, .int c2, .int c3, .int c4]) := by rw [eM4]; exact mUp_at (m_ne g_x g_p0 (by simp)) g_x
            have g_a1_ : M4 a1 = some (mQ E 4 12 fi) := by rw [eM4]; exact mUp_at (m_ne g_a1 g_p0 (by simp)) g_a1
            have g_a2_ : M4 a2 = some (mQ E 5 10 fb) := by rw [eM4]; exact mUp_at (m_ne g_a2 g_p0 (by simp)) g_a2
            have g_a3_ : M4 a3 = some (mQ E 6 8 ff) := by rw [eM4]; exact mUp_at (m_ne g_a3 g_p0 (by simp)) g_a3
            have g_a4_ : M4 a4 = some (mDb E 40 wt) := by rw [eM4]; exact mUp_at (m_ne g_a4 g_p0 (by simp)) g_a4
            have g_q0_ : M4 q0 = some (mI E 4 kf) := by rw [eM4]; exact mUp_at (m_ne g_q0 g_p0 (by simp)) g_q0
            have g_s2_ : M4 s2 = some (mO 5 [.int lane2, .ref v2]) := by rw [eM4]; exact mUp_at (m_ne g_s2 g_p0 (fun z => by simp at z)) g_s2
            have g_v2_ : M4 v2 = some (mDb E n2 f2) := by rw [eM4]; exact mUp_at (m_ne g_v2 g_p0 (by simp)) g_v2
            have g_x := g_x_
            have g_a1 := g_a1_
            have g_a2 := g_a2_
            have g_a3 := g_a3_
            have g_a4 := g_a4_
            have g_q0 := g_q0_
            have g_s2 := g_s2_
            have g_v2 := g_v2_
            have g_p0 : M4 p0 = some (mO ci [.ref q0, .int pi, .int on, .int ph, .double le, .ref s2, .int f0]) := by rw [eM4]; exact mUp_self _ _ _
            refine lv_iconst (v := 1) hx hb dX9_table_40 (by decide) ?_
            exact m_iret hx hb hr hlocks hM hS (by show 0 + 0 + 0 + 2 ≤ 2; omega) (by show 0 + 0 + 0 + 42 ≤ 42; omega) dX9_table_41 (by exact ⟨(if_pos hok).symm, (by show cRep E _ NO x (if vT nn i b then _ else _); rw [if_pos hok]; unfold insT; rw [hjc, hins]; rw [if_pos hv2, hjc2, hbk2]; show cRep E _ NO x (if o = 0 then _ else _); rw [if_neg ho, eM4, ep0, eq0, ef0, es2]; exact (hC.setT hiK hj hins (o := some w2) (fun r hr => by cases hr; exact hL w2 hlv2)).rep), (by rw [eM4, ep0]; exact kx hno.1)⟩)
      · rw [if_neg hv2] at e_r2
        subst e_r2
        refine W.eq (g2 := F0 m 33 ls [.null, .ref p0]) rfl ?_
        refine lv_iload_n hx hb dX9_table_33 rfl (lv_at hl 4 rfl) ?_
        refine m_callq (va_runS (As := [.null, .int o]) (rest := [.ref p0]) ⟨hx, hb, hml, hown, hts⟩ (c_X9_lot_n l E M H.size o) (va_cwS 2 hts gX9_table_X9_lentOrTwin rfl rfl rfl (by decide +kernel) ⟨Nat.le_of_ble_eq_true rfl, Nat.le_of_ble_eq_true rfl⟩) (m_preS hE hM) rfl rfl hl.1 rfl (lv_room (Nat.le_of_ble_eq_true rfl)) dX9_table_34 ⟨(by show 0 + 0 + 0 + 2 ≤ 2; omega), (by show 0 + 0 + 0 + 42 ≤ 42; omega)⟩) hM hS hA (fun r9 u H locs hw hM hS => ?_)
        obtain ⟨e_r9, eu⟩ := hw
        rw [eu] at hM
        subst e_r9
        refine W.eq (g2 := F0 m 37 ls [.null, .ref p0]) rfl ?_
        refine m_putI (v := .null) (ty := .object "CallWays2$Samples") hx hb hts in_X9_table_I hown hE hM hS g_p0 hci 5 (by decide) (hts (.fieldLink RX9 75 "CallWays2$Instrument" "table" "LCallWays2$Samples;") (by decide +kernel)) (fun _ h9 => h9) rfl (by decide +kernel) rfl rfl (Nat.le_of_ble_eq_true rfl) dX9_table_37 (fun H locs hM hS => ?_)
        have hM : mOK E.1 (mA M sz) (mUp M p0 (mO ci [.ref q0, .int pi, .int on, .int ph, .double le, .null, .int f0])) H := hM
        obtain ⟨M5, eM5⟩ : ∃ z, z = mUp M p0 (mO ci [.ref q0, .int pi, .int on, .int ph, .double le, .null, .int f0]) := ⟨_, rfl⟩
        rw [← eM5] at hM
        have g_x_ : M5 x = some (mO 7 [.ref a1, .ref a2, .ref a3, .ref a4, .int (nI nn), .int (nI nf), .int bd, .int st, .int c2, .int c3, .int c4]) := by rw [eM5]; exact mUp_at (m_ne g_x g_p0 (by simp)) g_x
        have g_a1_ : M5 a1 = some (mQ E 4 12 fi) := by rw [eM5]; exact mUp_at (m_ne g_a1 g_p0 (by simp)) g_a1
        have g_a2_ : M5 a2 = some (mQ E 5 10 fb) := by rw [eM5]; exact mUp_at (m_ne g_a2 g_p0 (by simp)) g_a2
        have g_a3_ : M5 a3 = some (mQ E 6 8 ff) := by rw [eM5]; exact mUp_at (m_ne g_a3 g_p0 (by simp)) g_a3
        have g_a4_ : M5 a4 = some (mDb E 40 wt) := by rw [eM5]; exact mUp_at (m_ne g_a4 g_p0 (by simp)) g_a4
        have g_q0_ : M5 q0 = some (mI E 4 kf) := by rw [eM5]; exact mUp_at (m_ne g_q0 g_p0 (by simp)) g_q0
        have g_x := g_x_
        have g_a1 := g_a1_
        have g_a2 := g_a2_
        have g_a3 := g_a3_
        have g_a4 := g_a4_
        have g_q0 := g_q0_
        have g_p0 : M5 p0 = some (mO ci [.ref q0, .int pi, .int on, .int ph, .double le, .null, .int f0]) := by rw [eM5]; exact mUp_self _ _ _
        refine lv_iconst (v := 1) hx hb dX9_table_40 (by decide) ?_
        exact m_iret hx hb hr hlocks hM hS (by show 0 + 0 + 0 + 2 ≤ 2; omega) (by show 0 + 0 + 0 + 42 ≤ 42; omega) dX9_table_41 (by exact ⟨(if_pos hok).symm, (by show cRep E _ NO x (if vT nn i b then _ else _); rw [if_pos hok]; unfold insT; rw [hjc, hins]; rw [if_neg hv2]; rw [eM5, ep0, eq0, ef0]; exact (hC.setT hiK hj hins (o := none) (fun r hr => by cases hr)).rep), (by rw [eM5, ep0]; exact kx hno.1)⟩)
    · skip
      refine lv_iload_n hx hb dX9_table_17 rfl (lv_at hl 3 rfl) ?_
      refine m_calli (va_runS (As := [.int b]) (rest := []) ⟨hx, hb, hml, hown, hts⟩ (c_X9_isBlock l E M H.size b) (va_cwS 1 hts gX9_table_X9_isBlock rfl rfl rfl (by decide +kernel) ⟨Nat.le_of_ble_eq_true rfl, Nat.le_of_ble_eq_true rfl⟩) (m_preS hE hM) rfl rfl hl.1 rfl (lv_room (Nat.le_of_ble_eq_true rfl)) dX9_table_18 ⟨(by show 0 + 0 + 0 ≤ 2; omega), (by show 0 + 0 + 0 ≤ 42; omega)⟩) hM hS hA (fun r00 u H locs hw hM hS => ?_)
      obtain ⟨e_r00, eu⟩ := hw
      rw [eu] at hM
      subst e_r00
      refine lv_if_ne (tgt := 26) hx hb dX9_table_21 (by decide) (fun c_21 => ?_) (fun c_21 => ?_)
      · skip
        rw [bI_ne] at c_21
        have hok : vT nn i b := ⟨hv, Or.inr c_21⟩
        have g_p00 := g_p0
        refine lv_aload hx hb dX9_table_26 (lv_at hl 0 rfl) ?_
        refine lv_aload_n hx hb dX9_table_28 rfl (lv_at hl 1 rfl) ?_
        refine lv_iload_n hx hb dX9_table_29 rfl (lv_at hl 3 rfl) ?_
        refine m_callq (va_runV (As := [.int b]) (rest := [.ref p0]) ⟨hx, hb, hml, hown, hts⟩ (c_X9_heldBy l E M H.size x a1 a2 a3 a4 nn nf bd st c2 c3 c4 fi fb ff wt b g_x g_a2) (cwV 1 hts gX9_table_X9_heldBy rfl rfl rfl (by decide +kernel) ⟨Nat.le_of_ble_eq_true rfl, Nat.le_of_ble_eq_true rfl⟩) (m_preV hE hM g_x rfl) rfl rfl hl.1 rfl (lv_room (Nat.le_of_ble_eq_true rfl)) dX9_table_30 ⟨(by show 0 + 0 + 0 + 0 ≤ 2; omega), (by show 0 + 0 + 0 + 0 ≤ 42; omega)⟩) hM hS hA (fun r2 u H locs hw hM hS => ?_)
        obtain ⟨e_r2, eu⟩ := hw
        rw [eu] at hM
        by_cases hv2 : ¬ b < 0 ∧ ¬ 10 ≤ b
        · rw [if_pos hv2] at e_r2
          obtain ⟨j2, hj2, hij2, hjc2⟩ := vB_ix hv2
          rw [hjc2, hB j2 hj2] at e_r2
          rcases hbk2 : bk j2 with _ | w2
          · rw [hbk2] at e_r2
            replace e_r2 : r2 = none := e_r2
            subst e_r2
            refine W.eq (g2 := F0 m 33 ls [.null, .ref p0]) rfl ?_
            refine lv_iload_n hx hb dX9_table_33 rfl (lv_at hl 4 rfl) ?_
            refine m_callq (va_runS (As := [.null, .int o]) (rest := [.ref p0]) ⟨hx, hb, hml, hown, hts⟩ (c_X9_lot_n l E M H.size o) (va_cwS 2 hts gX9_table_X9_lentOrTwin rfl rfl rfl (by decide +kernel) ⟨Nat.le_of_ble_eq_true rfl, Nat.le_of_ble_eq_true rfl⟩) (m_preS hE hM) rfl rfl hl.1 rfl (lv_room (Nat.le_of_ble_eq_true rfl)) dX9_table_34 ⟨(by show 0 + 0 + 0 + 0 + 2 ≤ 2; omega), (by show 0 + 0 + 0 + 0 + 42 ≤ 42; omega)⟩) hM hS hA (fun r9 u H locs hw hM hS => ?_)
            obtain ⟨e_r9, eu⟩ := hw
            rw [eu] at hM
            subst e_r9
            refine W.eq (g2 := F0 m 37 ls [.null, .ref p0]) rfl ?_
            refine m_putI (v := .null) (ty := .object "CallWays2$Samples") hx hb hts in_X9_table_I hown hE hM hS g_p0 hci 5 (by decide) (hts (.fieldLink RX9 75 "CallWays2$Instrument" "table" "LCallWays2$Samples;") (by decide +kernel)) (fun _ h9 => h9) rfl (by decide +kernel) rfl rfl (Nat.le_of_ble_eq_true rfl) dX9_table_37 (fun H locs hM hS => ?_)
            have hM : mOK E.1 (mA M sz) (mUp M p0 (mO ci [.ref q0, .int pi, .int on, .int ph, .double le, .null, .int f0])) H := hM
            obtain ⟨M6, eM6⟩ : ∃ z, z = mUp M p0 (mO ci [.ref q0, .int pi, .int on, .int ph, .double le, .null, .int f0]) := ⟨_, rfl⟩
            rw [← eM6] at hM
            have g_x_ : M6 x = some (mO 7 [.ref a1, .ref a2, .ref a3, .ref a4, .int (nI nn), .int (nI nf), .int bd, .int st, .int c2, .int c3, .int c4]) := by rw [eM6]; exact mUp_at (m_ne g_x g_p0 (by simp)) g_x
            have g_a1_ : M6 a1 = some (mQ E 4 12 fi) := by rw [eM6]; exact mUp_at (m_ne g_a1 g_p0 (by simp)) g_a1
            have g_a2_ : M6 a2 = some (mQ E 5 10 fb) := by rw [eM6]; exact mUp_at (m_ne g_a2 g_p0 (by simp)) g_a2
            have g_a3_ : M6 a3 = some (mQ E 6 8 ff) := by rw [eM6]; exact mUp_at (m_ne g_a3 g_p0 (by simp)) g_a3
            have g_a4_ : M6 a4 = some (mDb E 40 wt) := by rw [eM6]; exact mUp_at (m_ne g_a4 g_p0 (by simp)) g_a4
            have g_q0_ : M6 q0 = some (mI E 4 kf) := by rw [eM6]; exact mUp_at (m_ne g_q0 g_p0 (by simp)) g_q0
            have g_x := g_x_
            have g_a1 := g_a1_
            have g_a2 := g_a2_
            have g_a3 := g_a3_
            have g_a4 := g_a4_
            have g_q0 := g_q0_
            have g_p0 : M6 p0 = some (mO ci [.ref q0, .int pi, .int on, .int ph, .double le, .null, .int f0]) := by rw [eM6]; exact mUp_self _ _ _
            refine lv_iconst (v := 1) hx hb dX9_table_40 (by decide) ?_
            exact m_iret hx hb hr hlocks hM hS (by show 0 + 0 + 0 + 0 + 2 ≤ 2; omega) (by show 0 + 0 + 0 + 0 + 42 ≤ 42; omega) dX9_table_41 (by exact ⟨(if_pos hok).symm, (by show cRep E _ NO x (if vT nn i b then _ else _); rw [if_pos hok]; unfold insT; rw [hjc, hins]; rw [if_pos hv2, hjc2, hbk2]; rw [eM6, ep0, eq0, ef0]; exact (hC.setT hiK hj hins (o := none) (fun r hr => by cases hr)).rep), (by rw [eM6, ep0]; exact kx hno.1)⟩)
          · rw [hbk2] at e_r2
            replace e_r2 : r2 = some (ra w2) := e_r2
            have hlv2 : live nn ins bk w2 := Or.inl ⟨j2, hj2, hbk2⟩
            rcases hrw2 : rw w2 with ⟨lane2, n2, f2⟩
            obtain ⟨g_s2, g_v2, hva2⟩ := hR w2 (hL w2 hlv2) _ _ _ hrw2
            obtain ⟨hn2, hlane2, hvo2⟩ := hvR w2 hlv2 _ _ _ hrw2
            have hnr2 := nR0 w2 (hL w2 hlv2)
            obtain ⟨s2, es2⟩ : ∃ z, z = ra w2 := ⟨_, rfl⟩
            obtain ⟨v2, ev2⟩ : ∃ z, z = rb w2 := ⟨_, rfl⟩
            rw [← es2, ← ev2] at g_s2
            rw [← ev2] at g_v2 hva2
            rw [← es2] at e_r2
            subst e_r2
            refine W.eq (g2 := F0 m 33 ls [.ref s2, .ref p0]) rfl ?_
            refine lv_iload_n hx hb dX9_table_33 rfl (lv_at hl 4 rfl) ?_
            by_cases ho : o = 0
            · skip
              refine m_callq (va_runS (As := [.ref s2, .int o]) (rest := [.ref p0]) ⟨hx, hb, hml, hown, hts⟩ (c_X9_lot_t l E M H.size s2 v2 n2 lane2 f2 hn2 o ho g_s2 g_v2) (va_cwS 2 hts gX9_table_X9_lentOrTwin rfl rfl rfl (by decide +kernel) ⟨Nat.le_of_ble_eq_true rfl, Nat.le_of_ble_eq_true rfl⟩) (m_preS hE hM) rfl rfl hl.1 rfl (lv_room (Nat.le_of_ble_eq_true rfl)) dX9_table_34 ⟨(by show 0 + 0 + 0 + 0 + 2 ≤ 2; omega), (by show 0 + 0 + 0 + 0 + 42 ≤ 42; omega)⟩) hM hS hA (fun r9 M7 H locs hw hM hS => ?_)
              obtain ⟨a, v, e_r9, na, nv, nav, eM7⟩ := hw
              subst e_r9
              replace g_x : M7 x = some (mO 7 [.ref a1, .ref a2, .ref a3, .ref a4, .int (nI nn), .int (nI nf), .int bd, .int st, .int c2, .int c3, .int c4]) := by rw [eM7]; exact mUp_at (m_neN g_x na) (mUp_at (m_neN g_x nv) g_x)
              replace g_a1 : M7 a1 = some (mQ E 4 12 fi) := by rw [eM7]; exact mUp_at (m_neN g_a1 na) (mUp_at (m_neN g_a1 nv) g_a1)
              replace g_a2 : M7 a2 = some (mQ E 5 10 fb) := by rw [eM7]; exact mUp_at (m_neN g_a2 na) (mUp_at (m_neN g_a2 nv) g_a2)
              replace g_a3 : M7 a3 = some (mQ E 6 8 ff) := by rw [eM7]; exact mUp_at (m_neN g_a3 na) (mUp_at (m_neN g_a3 nv) g_a3)
              replace g_a4 : M7 a4 = some (mDb E 40 wt) := by rw [eM7]; exact mUp_at (m_neN g_a4 na) (mUp_at (m_neN g_a4 nv) g_a4)
              replace g_p0 : M7 p0 = some (mO ci [.ref q0, .int pi, .int on, .int ph, .double le, va_rf (tb.map ra), .int f0]) := by rw [eM7]; exact mUp_at (m_neN g_p0 na) (mUp_at (m_neN g_p0 nv) g_p0)
              replace g_q0 : M7 q0 = some (mI E 4 kf) := by rw [eM7]; exact mUp_at (m_neN g_q0 na) (mUp_at (m_neN g_q0 nv) g_q0)
              replace g_s2 : M7 s2 = some (mO 5 [.int lane2, .ref v2]) := by rw [eM7]; exact mUp_at (m_neN g_s2 na) (mUp_at (m_neN g_s2 nv) g_s2)
              replace g_v2 : M7 v2 = some (mDb E n2 f2) := by rw [eM7]; exact mUp_at (m_neN g_v2 na) (mUp_at (m_neN g_v2 nv) g_v2)
              have g_a : M7 a = some (mO 5 [.int lane2, .ref v]) := by rw [eM7]; exact mUp_self _ _ _
              refine W.eq (g2 := F0 m 37 ls [.ref a, .ref p0]) rfl ?_
              refine m_putI (v := .ref a) (ty := .object "CallWays2$Samples") hx hb hts in_X9_table_I hown hE hM hS g_p0 hci 5 (by decide) (hts (.fieldLink RX9 75 "CallWays2$Instrument" "table" "LCallWays2$Samples;") (by decide +kernel)) (fun _ h9 => h9) rfl (by decide +kernel) rfl rfl (Nat.le_of_ble_eq_true rfl) dX9_table_37 (fun H locs hM hS => ?_)
              have hM : mOK E.1 (mA M sz) (mUp M7 p0 (mO ci [.ref q0, .int pi, .int on, .int ph, .double le, .ref a, .int f0])) H := hM
              obtain ⟨M8, eM8⟩ : ∃ z, z = mUp M7 p0 (mO ci [.ref q0, .int pi, .int on, .int ph, .double le, .ref a, .int f0]) := ⟨_, rfl⟩
              rw [← eM8] at hM
              have g_x_ : M8 x = some (mO 7 [.ref a1, .ref a2, .ref a3, .ref a4, .int (nI nn), .int (nI nf), .int bd, .int st, .int c2, .int c3, .int c4]) := by rw [eM8]; exact mUp_at (m_ne g_x g_p0 (by simp)) g_x
              have g_a1_ : M8 a1 = some (mQ E 4 12 fi) := by rw [eM8]; exact mUp_at (m_ne g_a1 g_p0 (by simp)) g_a1
              have g_a2_ : M8 a2 = some (mQ E 5 10 fb) := by rw [eM8]; exact mUp_at (m_ne g_a2 g_p0 (by simp)) g_a2
              have g_a3_ : M8 a3 = some (mQ E 6 8 ff) := by rw [eM8]; exact mUp_at (m_ne g_a3 g_p0 (by simp)) g_a3
              have g_a4_ : M8 a4 = some (mDb E 40 wt) := by rw [eM8]; exact mUp_at (m_ne g_a4 g_p0 (by simp)) g_a4
              have g_q0_ : M8 q0 = some (mI E 4 kf) := by rw [eM8]; exact mUp_at (m_ne g_q0 g_p0 (by simp)) g_q0
              have g_s2_ : M8 s2 = some (mO 5 [.int lane2, .ref v2]) := by rw [eM8]; exact mUp_at (m_ne g_s2 g_p0 (fun z => by simp at z)) g_s2
              have g_v2_ : M8 v2 = some (mDb E n2 f2) := by rw [eM8]; exact mUp_at (m_ne g_v2 g_p0 (by simp)) g_v2
              have g_a_ : M8 a = some (mO 5 [.int lane2, .ref v]) := by rw [eM8]; exact mUp_at (m_ne g_a g_p0 (fun z => by simp at z)) g_a
              have g_x := g_x_
              have g_a1 := g_a1_
              have g_a2 := g_a2_
              have g_a3 := g_a3_
              have g_a4 := g_a4_
              have g_q0 := g_q0_
              have g_s2 := g_s2_
              have g_v2 := g_v2_
              have g_a := g_a_
              have g_p0 : M8 p0 = some (mO ci [.ref q0, .int pi, .int on, .int ph, .double le, .ref a, .int f0]) := by rw [eM8]; exact mUp_self _ _ _
              refine lv_iconst (v := 1) hx hb dX9_table_40 (by decide) ?_
              exact m_iret hx hb hr hlocks hM hS (by show 0 + 0 + 0 + 0 + 2 ≤ 2; omega) (by show 0 + 0 + 0 + 0 + 42 ≤ 42; omega) dX9_table_41 (by exact ⟨(if_pos hok).symm, (by
      show cRep E _ NO x (if vT nn i b then _ else _); rw [if_pos hok]; unfold insT; rw [hjc, hins]; rw [if_pos hv2, hjc2, hbk2]; show cRep E _ NO x (if o = 0 then _ else _)
      rw [if_pos ho]
      have hi2 := insK_up (j := j) (v := (ci, kf, pi, on, ph, le, none)) hiK (by rw [hins])
      have h1 := hC.setT hiK hj hins (o := none) (fun r hr => by cases hr)
      have h2 := h1.shrink (L2 := live nn (va_up ins j (ci, kf, pi, on, ph, le, none)) bk) (fun _ h => h) (by obtain ⟨_, _, _, _, hL1, _⟩ := h1; exact hL1)
      have h3 := h2.addR (a := a) (v := v) (r := fresh bk (tbs (va_up ins j (ci, kf, pi, on, ph, le, none)))) (n := n2) (lane := lane2) (f := f2) hi2 (mUp_no na (by rw [← ep0]; exact m_neN g_p00 na)) (mUp_no nv (by rw [← ep0]; exact m_neN g_p00 nv)) nav (hO_up hO) (fresh_nl hnn)
      have h4 := h3.setT hi2 hj (va_up_self _ _ _) (o := some (fresh bk (tbs (va_up ins j (ci, kf, pi, on, ph, le, none))))) (fun r hr => Or.inr (Option.some.inj hr).symm)
      show cRep E _ NO x (nn, va_up ins j (ci, kf, pi, on, ph, le, some (fresh bk (tbs (va_up ins j (ci, kf, pi, on, ph, le, none))))), nf, fn, bk, va_up rw (fresh bk (tbs (va_up ins j (ci, kf, pi, on, ph, le, none)))) (rw w2), bd, st, c2, c3, c4)
      rw [hrw2, eM8, eM7, ep0, eq0, ef0]
      rw [mUp_3 (by rw [← ep0]; exact m_neN g_p00 nv) (by rw [← ep0]; exact m_neN g_p00 na), va_up_twice] at h4
      have h5 := h4.rep
      simp only [Option.map_some, va_up_self] at h5
      exact h5), (by rw [eM8, eM7, ep0]; exact ((kept.rf.up (fun z => hO v z nv)).up (fun z => hO a z na)).up hno.1)⟩)
            · skip
              refine m_callq (va_runS (As := [.ref s2, .int o]) (rest := [.ref p0]) ⟨hx, hb, hml, hown, hts⟩ (c_X9_lot_l l E M H.size s2 o ho) (va_cwS 2 hts gX9_table_X9_lentOrTwin rfl rfl rfl (by decide +kernel) ⟨Nat.le_of_ble_eq_true rfl, Nat.le_of_ble_eq_true rfl⟩) (m_preS hE hM) rfl rfl hl.1 rfl (lv_room (Nat.le_of_ble_eq_true rfl)) dX9_table_34 ⟨(by show 0 + 0 + 0 + 0 + 2 ≤ 2; omega), (by show 0 + 0 + 0 + 0 + 42 ≤ 42; omega)⟩) hM hS hA (fun r9 u H locs hw hM hS => ?_)
              obtain ⟨e_r9, eu⟩ := hw
              rw [eu] at hM
              subst e_r9
              refine W.eq (g2 := F0 m 37 ls [.ref s2, .ref p0]) rfl ?_
              refine m_putI (v := .ref s2) (ty := .object "CallWays2$Samples") hx hb hts in_X9_table_I hown hE hM hS g_p0 hci 5 (by decide) (hts (.fieldLink RX9 75 "CallWays2$Instrument" "table" "LCallWays2$Samples;") (by decide +kernel)) (fun _ h9 => h9) rfl (by decide +kernel) rfl rfl (Nat.le_of_ble_eq_true rfl) dX9_table_37 (fun H locs hM hS => ?_)
              have hM : mOK E.1 (mA M sz) (mUp M p0 (mO ci [.ref q0, .int pi, .int on, .int ph, .double le, .ref s2, .int f0])) H := hM
              obtain ⟨M9, eM9⟩ : ∃ z, z = mUp M p0 (mO ci [.ref q0, .int pi, .int on, .int ph, .double le, .ref s2, .int f0]) := ⟨_, rfl⟩
              rw [← eM9] at hM
              have g_x_ : M9 x = some (mO 7 [.ref a1, .ref a2, .ref a3, .ref a4, .int (nI nn), .int (nI nf), .int bd, .int st, .int c2, .int c3, .int c4]) := by rw [eM9]; exact mUp_at (m_ne g_x g_p0 (by simp)) g_x
              have g_a1_ : M9 a1 = some (mQ E 4 12 fi) := by rw [eM9]; exact mUp_at (m_ne g_a1 g_p0 (by simp)) g_a1
              have g_a2_ : M9 a2 = some (mQ E 5 10 fb) := by rw [eM9]; exact mUp_at (m_ne g_a2 g_p0 (by simp)) g_a2
              have g_a3_ : M9 a3 = some (mQ E 6 8 ff) := by rw [eM9]; exact mUp_at (m_ne g_a3 g_p0 (by simp)) g_a3
              have g_a4_ : M9 a4 = some (mDb E 40 wt) := by rw [eM9]; exact mUp_at (m_ne g_a4 g_p0 (by simp)) g_a4
              have g_q0_ : M9 q0 = some (mI E 4 kf) := by rw [eM9]; exact mUp_at (m_ne g_q0 g_p0 (by simp)) g_q0
              have g_s2_ : M9 s2 = some (mO 5 [.int lane2, .ref v2]) := by rw [eM9]; exact mUp_at (m_ne g_s2 g_p0 (fun z => by simp at z)) g_s2
              have g_v2_ : M9 v2 = some (mDb E n2 f2) := by rw [eM9]; exact mUp_at (m_ne g_v2 g_p0 (by simp)) g_v2
              have g_x := g_x_
              have g_a1 := g_a1_
              have g_a2 := g_a2_
              have g_a3 := g_a3_
              have g_a4 := g_a4_
              have g_q0 := g_q0_
              have g_s2 := g_s2_
              have g_v2 := g_v2_
              have g_p0 : M9 p0 = some (mO ci [.ref q0, .int pi, .int on, .int ph, .double le, .ref s2, .int f0]) := by rw [eM9]; exact mUp_self _ _ _
              refine lv_iconst (v := 1) hx hb dX9_table_40 (by decide) ?_
              exact m_iret hx hb hr hlocks hM hS (by show 0 + 0 + 0 + 0 + 2 ≤ 2; omega) (by show 0 + 0 + 0 + 0 + 42 ≤ 42; omega) dX9_table_41 (by exact ⟨(if_pos hok).symm, (by show cRep E _ NO x (if vT nn i b then _ else _); rw [if_pos hok]; unfold insT; rw [hjc, hins]; rw [if_pos hv2, hjc2, hbk2]; show cRep E _ NO x (if o = 0 then _ else _); rw [if_neg ho, eM9, ep0, eq0, ef0, es2]; exact (hC.setT hiK hj hins (o := some w2) (fun r hr => by cases hr; exact hL w2 hlv2)).rep), (by rw [eM9, ep0]; exact kx hno.1)⟩)
        · rw [if_neg hv2] at e_r2
          subst e_r2
          refine W.eq (g2 := F0 m 33 ls [.null, .ref p0]) rfl ?_
          refine lv_iload_n hx hb dX9_table_33 rfl (lv_at hl 4 rfl) ?_
          refine m_callq (va_runS (As := [.null, .int o]) (rest := [.ref p0]) ⟨hx, hb, hml, hown, hts⟩ (c_X9_lot_n l E M H.size o) (va_cwS 2 hts gX9_table_X9_lentOrTwin rfl rfl rfl (by decide +kernel) ⟨Nat.le_of_ble_eq_true rfl, Nat.le_of_ble_eq_true rfl⟩) (m_preS hE hM) rfl rfl hl.1 rfl (lv_room (Nat.le_of_ble_eq_true rfl)) dX9_table_34 ⟨(by show 0 + 0 + 0 + 0 + 2 ≤ 2; omega), (by show 0 + 0 + 0 + 0 + 42 ≤ 42; omega)⟩) hM hS hA (fun r9 u H locs hw hM hS => ?_)
          obtain ⟨e_r9, eu⟩ := hw
          rw [eu] at hM
          subst e_r9
          refine W.eq (g2 := F0 m 37 ls [.null, .ref p0]) rfl ?_
          refine m_putI (v := .null) (ty := .object "CallWays2$Samples") hx hb hts in_X9_table_I hown hE hM hS g_p0 hci 5 (by decide) (hts (.fieldLink RX9 75 "CallWays2$Instrument" "table" "LCallWays2$Samples;") (by decide +kernel)) (fun _ h9 => h9) rfl (by decide +kernel) rfl rfl (Nat.le_of_ble_eq_true rfl) dX9_table_37 (fun H locs hM hS => ?_)
          have hM : mOK E.1 (mA M sz) (mUp M p0 (mO ci [.ref q0, .int pi, .int on, .int ph, .double le, .null, .int f0])) H := hM
          obtain ⟨M10, eM10⟩ : ∃ z, z = mUp M p0 (mO ci [.ref q0, .int pi, .int on, .int ph, .double le, .null, .int f0]) := ⟨_, rfl⟩
          rw [← eM10] at hM
          have g_x_ : M10 x = some (mO 7 [.ref a1, .ref a2, .ref a3, .ref a4, .int (nI nn), .int (nI nf), .int bd, .int st, .int c2, .int c3, .int c4]) := by rw [eM10]; exact mUp_at (m_ne g_x g_p0 (by simp)) g_x
          have g_a1_ : M10 a1 = some (mQ E 4 12 fi) := by rw [eM10]; exact mUp_at (m_ne g_a1 g_p0 (by simp)) g_a1
          have g_a2_ : M10 a2 = some (mQ E 5 10 fb) := by rw [eM10]; exact mUp_at (m_ne g_a2 g_p0 (by simp)) g_a2
          have g_a3_ : M10 a3 = some (mQ E 6 8 ff) := by rw [eM10]; exact mUp_at (m_ne g_a3 g_p0 (by simp)) g_a3
          have g_a4_ : M10 a4 = some (mDb E 40 wt) := by rw [eM10]; exact mUp_at (m_ne g_a4 g_p0 (by simp)) g_a4
          have g_q0_ : M10 q0 = some (mI E 4 kf) := by rw [eM10]; exact mUp_at (m_ne g_q0 g_p0 (by simp)) g_q0
          have g_x := g_x_
          have g_a1 := g_a1_
          have g_a2 := g_a2_
          have g_a3 := g_a3_
          have g_a4 := g_a4_
          have g_q0 := g_q0_
          have g_p0 : M10 p0 = some (mO ci [.ref q0, .int pi, .int on, .int ph, .double le, .null, .int f0]) := by rw [eM10]; exact mUp_self _ _ _
          refine lv_iconst (v := 1) hx hb dX9_table_40 (by decide) ?_
          exact m_iret hx hb hr hlocks hM hS (by show 0 + 0 + 0 + 0 + 2 ≤ 2; omega) (by show 0 + 0 + 0 + 0 + 42 ≤ 42; omega) dX9_table_41 (by exact ⟨(if_pos hok).symm, (by show cRep E _ NO x (if vT nn i b then _ else _); rw [if_pos hok]; unfold insT; rw [hjc, hins]; rw [if_neg hv2]; rw [eM10, ep0, eq0, ef0]; exact (hC.setT hiK hj hins (o := none) (fun r hr => by cases hr)).rep), (by rw [eM10, ep0]; exact kx hno.1)⟩)
      · skip
        rw [bI_eq] at c_21
        have hz : ¬ vT nn i b := fun h => h.2.elim c_14 c_21
        refine lv_iconst (v := -1) hx hb dX9_table_24 (by decide) ?_
        exact m_iret hx hb hr hlocks hM hS (by show 0 + 0 + 0 ≤ 2; omega) (by show 0 + 0 + 0 ≤ 42; omega) dX9_table_25 (by exact ⟨(if_neg hz).symm, (by show cRep E _ NO x (if vT nn i b then _ else _); rw [if_neg hz]; exact hC0), kept.rf⟩)
  · rw [if_neg hv] at e_r1
    subst e_r1
    refine W.eq (g2 := F0 m 5 ls [.null]) rfl ?_
    refine lv_astoreN (lv' := [(4, .null), (0, .ref x), (1, .int i), (2, .int b), (3, .int o)]) hx hb dX9_table_5 hl (by decide) rfl (fun ls hl => ?_)
    refine lv_aloadN hx hb dX9_table_7 (lv_at hl 0 rfl) ?_
    refine lv_ifnullN (tgt := 24) hx hb dX9_table_9 (by decide) ?_
    refine lv_iconst (v := -1) hx hb dX9_table_24 (by decide) ?_
    exact m_iret hx hb hr hlocks hM hS (by show 0 + 0 ≤ 2; omega) (by show 0 + 0 ≤ 42; omega) dX9_table_25 (by have hz : ¬ vT nn i b := na1 hv; exact ⟨(if_neg hz).symm, (by show cRep E _ NO x (if vT nn i b then _ else _); rw [if_neg hz]; exact hC0), kept.rf⟩)
