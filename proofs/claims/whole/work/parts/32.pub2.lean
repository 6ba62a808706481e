theorem in_X9_note_I : ∀ w ∈ wsX00 ++ wsX20 ++ wsX40 ++ wsX60 ++ wsX80, w ∈ wsX9_note := by decide +kernel
set_option maxHeartbeats 4000000 in
set_option maxRecDepth 100000 in
theorem c_X9_note (l : Launch) (E : mEnv) (M : mMem) (sz : Nat) (NO : Nat → Prop) (x nn nf : Nat) (ins : Nat → sIn) (fn : Nat → Int32 × Int32) (bk : Nat → Option Nat) (rw : Nat → sRw) (bd st c2 c3 c4 : Int32) (hV : Inv (nn, ins, nf, fn, bk, rw, bd, st, c2, c3, c4)) (hC : cRep E M NO x (nn, ins, nf, fn, bk, rw, bd, st, c2, c3, c4)) (hO : ∀ q, NO q → M q ≠ none) (i pt o : Int32) (ho : o = 0 ∨ o = 1)   : Met l yX9_note wsX9_note ({ frames := 2, cells := 0, slots := 0, locals := 44 }) (mPre E M sz [.ref x, .int i, .int pt, .int o]) (mQi E M sz (fun r u => r = aNote (nn, ins, nf, fn, bk, rw, bd, st, c2, c3, c4) i pt o ∧ cRep E u NO x (nNote (nn, ins, nf, fn, bk, rw, bd, st, c2, c3, c4) i pt o) ∧ kept NO M u)) (0) (0) (mA M sz) := by
  refine m_met [.ref x, .int i, .int pt, .int o] (by decide) rfl (Nat.le_of_ble_eq_true rfl) ?_
  intro p e s m below meth c ls H eH hx hb hr hts hown hlocks hnm hml hsz hE hM hS hA hl
  have hl : lv_has ls 6 [(0, .ref x), (1, .int i), (2, .int pt), (3, .int o)] := hl
  obtain ⟨a1, a2, a3, a4, fi, fb, ff, wt, ia, ib, fa, ra, rb, fl, LV, hC⟩ := hC
  have hC0 := hC.rep
  have hiK := hV.insK
  obtain ⟨hnn, hnf, hvI, hvD, hv24, hvR, hvF⟩ := id hV
  obtain ⟨⟨g_x, g_a1, g_a2, g_a3, g_a4⟩, hI, hF, hB, hL, hR, hJ, hN⟩ := id hC
  obtain ⟨⟨nx, n1, n2, n3, n4⟩, nI0, nF0, nR0⟩ := id hN
  refine lv_aload_n hx hb dX9_note_0 rfl (lv_at hl 0 rfl) ?_
  refine lv_iload_n hx hb dX9_note_1 rfl (lv_at hl 1 rfl) ?_
  refine m_callq (va_runV (As := [.int i]) (rest := []) ⟨hx, hb, hml, hown, hts⟩ (c_X9_instrumentAt l E M H.size x a1 a2 a3 a4 nn nf bd st c2 c3 c4 fi fb ff wt i hnn g_x g_a1) (cwV 1 hts gX9_note_X9_instrumentAt rfl rfl rfl (by decide +kernel) ⟨Nat.le_of_ble_eq_true rfl, Nat.le_of_ble_eq_true rfl⟩) (m_preV hE hM g_x rfl) rfl rfl hl.1 rfl (lv_room (Nat.le_of_ble_eq_true rfl)) dX9_note_2 ⟨Nat.le_of_ble_eq_true rfl, Nat.le_of_ble_eq_true rfl⟩) hM hS hA (fun r1 u H locs hw hM hS => ?_)
  obtain ⟨e_r1, eu⟩ := hw
  rw [eu] at hM
  by_cases hv : ¬ i < 0 ∧ ¬ nI nn ≤ i
  · rw [if_pos hv] at e_r1
    obtain ⟨j, hj, hij, hjc⟩ := vI_ix hv hnn
    rw [hjc] at e_r1
    rcases hins : ins j with ⟨ci, kf, pi, on, ph, le, tb⟩
    obtain ⟨k1, g_p0, g_q0⟩ := hI j hj _ _ _ _ _ _ _ hins
    obtain ⟨hci, hle, hon⟩ := hvI j hj _ _ _ _ _ _ _ hins
    have hno := nI0 j hj
    obtain ⟨p0, ep0⟩ : ∃ z, z = ia j := ⟨_, rfl⟩
    obtain ⟨q0, eq0⟩ : ∃ z, z = ib j := ⟨_, rfl⟩
    obtain ⟨f0, ef0⟩ : ∃ z, z = fl j := ⟨_, rfl⟩
    rw [← ep0] at k1 g_p0
    rw [← eq0, ← ef0] at g_p0
    rw [← eq0] at g_q0
    rw [k1] at e_r1
    subst e_r1
    refine W.eq (g2 := F0 m 5 ls [.ref p0]) rfl ?_
    refine lv_astore (lv' := [(4, .ref p0), (0, .ref x), (1, .int i), (2, .int pt), (3, .int o)]) hx hb dX9_note_5 hl (by decide) rfl (fun ls hl => ?_)
    refine lv_aload hx hb dX9_note_7 (lv_at hl 0 rfl) ?_
    refine lv_ifnull hx hb dX9_note_9 ?_
    refine lv_iload_n hx hb dX9_note_12 rfl (lv_at hl 3 rfl) ?_
    refine lv_if_lt (tgt := 22) hx hb dX9_note_13 (by decide) (fun c_13 => ?_) (fun c_13 => ?_)
    · skip
      have hx9 : ¬ (vI nn i ∧ vP pt) := fun h => h.2.1 c_13
      refine lv_iconst (v := -1) hx hb dX9_note_22 (by decide) ?_
      exact m_iret hx hb hr hlocks hM hS (Nat.le_refl _) (Nat.le_refl _) dX9_note_23 (by first | (exact ⟨(if_neg hx9).symm, (by show cRep E _ NO x (if vI nn i ∧ vP pt then _ else _); rw [if_neg hx9]; exact hC0), kept.rf⟩) | (have hx9 : ¬ (vI nn i ∧ vP pt) := na1 hv; exact ⟨(if_neg hx9).symm, (by show cRep E _ NO x (if vI nn i ∧ vP pt then _ else _); rw [if_neg hx9]; exact hC0), kept.rf⟩))
    · skip
      refine lv_iload_n hx hb dX9_note_16 rfl (lv_at hl 3 rfl) ?_
      refine lv_bipush (v := 127) hx hb dX9_note_17 (by decide) ?_
      refine lv_icmp_le (tgt := 24) hx hb dX9_note_19 (by decide) (fun c_19 => ?_) (fun c_19 => ?_)
      · skip
        have hp : vP pt := ⟨c_13, c_19⟩
        refine lv_aload hx hb dX9_note_24 (lv_at hl 0 rfl) ?_
        refine m_getI (v := .int on) hx hb hts in_X9_note_I hown hE hM g_p0 hci 2 (by decide) (hts (.fieldLink RX9 45 "CallWays2$Instrument" "on" "Z") (by decide +kernel)) (fun _ h9 => h9) rfl dX9_note_26 ?_
        refine lv_if_eq (tgt := 36) hx hb dX9_note_29 (by decide) (fun c_29 => ?_) (fun c_29 => ?_)
        · skip
          refine lv_iconst (v := 0) hx hb dX9_note_36 (by decide) ?_
          refine lv_istore (lv' := [(5, .int 0), (4, .ref p0), (0, .ref x), (1, .int i), (2, .int pt), (3, .int o)]) hx hb dX9_note_37 hl (by decide) rfl (fun ls hl => ?_)
          refine lv_aload hx hb dX9_note_39 (lv_at hl 1 rfl) ?_
          refine lv_iload_n hx hb dX9_note_41 rfl (lv_at hl 4 rfl) ?_
          refine lv_iload_n hx hb dX9_note_42 rfl (lv_at hl 5 rfl) ?_
          have hMr := hM
          have hrun : va_Run p l e ({ frames := 2, cells := 0, slots := 0, locals := 44 } : Room) s m #[.ref x, .int i, .int pt, .int o] below meth c H locs 0 0 0 0 (F0 m 43 ls [.int o, .int pt, .ref p0]) [] (mQv E M H.size (fun u => u = mUp M p0 (mO ci [.ref q0, .int pt, .int o, .int ph, .double (sLev ci o pt le), va_rf (tb.map ra), .int f0])) #[.ref p0, .int pt, .int o]) (mA M H.size) := by
            rcases hci with rfl | rfl | rfl | rfl | rfl
            · exact va_runU (As := [.int pt, .int o]) (rest := []) ⟨hx, hb, hml, hown, hts⟩ (c_X2_strike_0 l E M H.size p0 q0 pi on ph f0 le (tb.map ra) pt o ho g_p0) (va_cwO 2 hts gX9_note_X2_strike_u49X0 rfl rfl rfl (b0 := cX5_strike) (m0 := 3) (r0 := none) (by decide +kernel) (by decide +kernel) ⟨Nat.le_of_ble_eq_true rfl, Nat.le_of_ble_eq_true rfl⟩) (m_preV hE hMr g_p0 rfl) rfl rfl hl.1 rfl (lv_room (Nat.le_of_ble_eq_true rfl)) dX9_note_43 ⟨Nat.le_of_ble_eq_true rfl, Nat.le_of_ble_eq_true rfl⟩
            · exact va_runU (As := [.int pt, .int o]) (rest := []) ⟨hx, hb, hml, hown, hts⟩ (c_X2_strike_1 l E M H.size p0 q0 pi on ph f0 le (tb.map ra) pt o ho g_p0) (va_cwO 2 hts gX9_note_X2_strike_u49X2 rfl rfl rfl (b0 := cX5_strike) (m0 := 3) (r0 := none) (by decide +kernel) (by decide +kernel) ⟨Nat.le_of_ble_eq_true rfl, Nat.le_of_ble_eq_true rfl⟩) (m_preV hE hMr g_p0 rfl) rfl rfl hl.1 rfl (lv_room (Nat.le_of_ble_eq_true rfl)) dX9_note_43 ⟨Nat.le_of_ble_eq_true rfl, Nat.le_of_ble_eq_true rfl⟩
            · exact va_runU (As := [.int pt, .int o]) (rest := []) ⟨hx, hb, hml, hown, hts⟩ (c_X5_strike l E M H.size 3 (by unfold insK; decide) p0 q0 pi on ph f0 le (tb.map ra) pt o ho g_p0) (va_cwU 2 hts gX9_note_X5_strike_u49X4 rfl rfl rfl rfl (by decide +kernel) ⟨Nat.le_of_ble_eq_true rfl, Nat.le_of_ble_eq_true rfl⟩) (m_preV hE hMr g_p0 rfl) rfl rfl hl.1 rfl (lv_room (Nat.le_of_ble_eq_true rfl)) dX9_note_43 ⟨Nat.le_of_ble_eq_true rfl, Nat.le_of_ble_eq_true rfl⟩
            · exact va_runU (As := [.int pt, .int o]) (rest := []) ⟨hx, hb, hml, hown, hts⟩ (c_X5_strike l E M H.size 4 (by unfold insK; decide) p0 q0 pi on ph f0 le (tb.map ra) pt o ho g_p0) (va_cwU 2 hts gX9_note_X5_strike_u49X6 rfl rfl rfl rfl (by decide +kernel) ⟨Nat.le_of_ble_eq_true rfl, Nat.le_of_ble_eq_true rfl⟩) (m_preV hE hMr g_p0 rfl) rfl rfl hl.1 rfl (lv_room (Nat.le_of_ble_eq_true rfl)) dX9_note_43 ⟨Nat.le_of_ble_eq_true rfl, Nat.le_of_ble_eq_true rfl⟩
            · exact va_runU (As := [.int pt, .int o]) (rest := []) ⟨hx, hb, hml, hown, hts⟩ (c_X5_strike l E M H.size 6 (by unfold insK; decide) p0 q0 pi on ph f0 le (tb.map ra) pt o ho g_p0) (va_cwU 2 hts gX9_note_X5_strike_u49X8 rfl rfl rfl rfl (by decide +kernel) ⟨Nat.le_of_ble_eq_true rfl, Nat.le_of_ble_eq_true rfl⟩) (m_preV hE hMr g_p0 rfl) rfl rfl hl.1 rfl (lv_room (Nat.le_of_ble_eq_true rfl)) dX9_note_43 ⟨Nat.le_of_ble_eq_true rfl, Nat.le_of_ble_eq_true rfl⟩
          refine m_callv hrun hM hS hA (fun M1 H locs hw hM hS => ?_)
          have eM1 := hw
          have g_x_ : M1 x = some (mO 7 [.ref a1, .ref a2, .ref a3, .ref a4, .int (nI nn), .int (nI nf), .int bd, .int st, .int c2, .int c3, .int c4]) := by rw [eM1]; exact mUp_at (m_ne g_x g_p0 (by simp)) g_x
          have g_a1_ : M1 a1 = some (mQ E 4 12 fi) := by rw [eM1]; exact mUp_at (m_ne g_a1 g_p0 (by simp)) g_a1
          have g_a2_ : M1 a2 = some (mQ E 5 10 fb) := by rw [eM1]; exact mUp_at (m_ne g_a2 g_p0 (by simp)) g_a2
          have g_a3_ : M1 a3 = some (mQ E 6 8 ff) := by rw [eM1]; exact mUp_at (m_ne g_a3 g_p0 (by simp)) g_a3
          have g_a4_ : M1 a4 = some (mDb E 40 wt) := by rw [eM1]; exact mUp_at (m_ne g_a4 g_p0 (by simp)) g_a4
          have g_q0_ : M1 q0 = some (mI E 4 kf) := by rw [eM1]; exact mUp_at (m_ne g_q0 g_p0 (by simp)) g_q0
          have g_x := g_x_
          have g_a1 := g_a1_
          have g_a2 := g_a2_
          have g_a3 := g_a3_
          have g_a4 := g_a4_
          have g_q0 := g_q0_
          have g_p0 : M1 p0 = some (mO ci [.ref q0, .int pt, .int o, .int ph, .double (sLev ci o pt le), va_rf (tb.map ra), .int f0]) := by rw [eM1]; exact mUp_self _ _ _
          refine lv_iload hx hb dX9_note_46 (lv_at hl 0 rfl) ?_
          exact m_iret hx hb hr hlocks hM hS (Nat.le_refl _) (Nat.le_refl _) dX9_note_48 (by exact ⟨(by show _ = (if vI nn i ∧ vP pt then _ else _); rw [if_pos ⟨hv, hp⟩, hjc, hins]; first | exact (if_pos c_29).symm | exact (if_neg c_29).symm), (by show cRep E _ NO x (if vI nn i ∧ vP pt then _ else _); rw [if_pos ⟨hv, hp⟩, hjc, hins, eM1, ep0, eq0]; exact (hC.inst hiK hj hins).rep), (by rw [eM1, ep0]; exact kx hno.1)⟩)
        · skip
          refine lv_iconst (v := 1) hx hb dX9_note_32 (by decide) ?_
          refine lv_goto (tgt := 37) hx hb dX9_note_33 (by decide) ?_
          refine lv_istore (lv' := [(5, .int 1), (4, .ref p0), (0, .ref x), (1, .int i), (2, .int pt), (3, .int o)]) hx hb dX9_note_37 hl (by decide) rfl (fun ls hl => ?_)
          refine lv_aload hx hb dX9_note_39 (lv_at hl 1 rfl) ?_
          refine lv_iload_n hx hb dX9_note_41 rfl (lv_at hl 4 rfl) ?_
          refine lv_iload_n hx hb dX9_note_42 rfl (lv_at hl 5 rfl) ?_
          have hMr := hM
          have hrun : va_Run p l e ({ frames := 2, cells := 0, slots := 0, locals := 44 } : Room) s m #[.ref x, .int i, .int pt, .int o] below meth c H locs 0 0 0 0 (F0 m 43 ls [.int o, .int pt, .ref p0]) [] (mQv E M H.size (fun u => u = mUp M p0 (mO ci [.ref q0, .int pt, .int o, .int ph, .double (sLev ci o pt le), va_rf (tb.map ra), .int f0])) #[.ref p0, .int pt, .int o]) (mA M H.size) := by
            rcases hci with rfl | rfl | rfl | rfl | rfl
            · exact va_runU (As := [.int pt, .int o]) (rest := []) ⟨hx, hb, hml, hown, hts⟩ (c_X2_strike_0 l E M H.size p0 q0 pi on ph f0 le (tb.map ra) pt o ho g_p0) (va_cwO 2 hts gX9_note_X2_strike_u49X0 rfl rfl rfl (b0 := cX5_strike) (m0 := 3) (r0 := none) (by decide +kernel) (by decide +kernel) ⟨Nat.le_of_ble_eq_true rfl, Nat.le_of_ble_eq_true rfl⟩) (m_preV hE hMr g_p0 rfl) rfl rfl hl.1 rfl (lv_room (Nat.le_of_ble_eq_true rfl)) dX9_note_43 ⟨Nat.le_of_ble_eq_true rfl, Nat.le_of_ble_eq_true rfl⟩
            · exact va_runU (As := [.int pt, .int o]) (rest := []) ⟨hx, hb, hml, hown, hts⟩ (c_X2_strike_1 l E M H.size p0 q0 pi on ph f0 le (tb.map ra) pt o ho g_p0) (va_cwO 2 hts gX9_note_X2_strike_u49X2 rfl rfl rfl (b0 := cX5_strike) (m0 := 3) (r0 := none) (by decide +kernel) (by decide +kernel) ⟨Nat.le_of_ble_eq_true rfl, Nat.le_of_ble_eq_true rfl⟩) (m_preV hE hMr g_p0 rfl) rfl rfl hl.1 rfl (lv_room (Nat.le_of_ble_eq_true rfl)) dX9_note_43 ⟨Nat.le_of_ble_eq_true rfl, Nat.le_of_ble_eq_true rfl⟩
            · exact va_runU (As := [.int pt, .int o]) (rest := []) ⟨hx, hb, hml, hown, hts⟩ (c_X5_strike l E M H.size 3 (by unfold insK; decide) p0 q0 pi on ph f0 le (tb.map ra) pt o ho g_p0) (va_cwU 2 hts gX9_note_X5_strike_u49X4 rfl rfl rfl rfl (by decide +kernel) ⟨Nat.le_of_ble_eq_true rfl, Nat.le_of_ble_eq_true rfl⟩) (m_preV hE hMr g_p0 rfl) rfl rfl hl.1 rfl (lv_room (Nat.le_of_ble_eq_true rfl)) dX9_note_43 ⟨Nat.le_of_ble_eq_true rfl, Nat.le_of_ble_eq_true rfl⟩
            · exact va_runU (As := [.int pt, .int o]) (rest := []) ⟨hx, hb, hml, hown, hts⟩ (c_X5_strike l E M H.size 4 (by unfold insK; decide) p0 q0 pi on ph f0 le (tb.map ra) pt o ho g_p0) (va_cwU 2 hts gX9_note_X5_strike_u49X6 rfl rfl rfl rfl (by decide +kernel) ⟨Nat.le_of_ble_eq_true rfl, Nat.le_of_ble_eq_true rfl⟩) (m_preV hE hMr g_p0 rfl) rfl rfl hl.1 rfl (lv_room (Nat.le_of_ble_eq_true rfl)) dX9_note_43 ⟨Nat.le_of_ble_eq_true rfl, Nat.le_of_ble_eq_true rfl⟩
            · exact va_runU (As := [.int pt, .int o]) (rest := []) ⟨hx, hb, hml, hown, hts⟩ (c_X5_strike l E M H.size 6 (by unfold insK; decide) p0 q0 pi on ph f0 le (tb.map ra) pt o ho g_p0) (va_cwU 2 hts gX9_note_X5_strike_u49X8 rfl rfl rfl rfl (by decide +kernel) ⟨Nat.le_of_ble_eq_true rfl, Nat.le_of_ble_eq_true rfl⟩) (m_preV hE hMr g_p0 rfl) rfl rfl hl.1 rfl (lv_room (Nat.le_of_ble_eq_true rfl)) dX9_note_43 ⟨Nat.le_of_ble_eq_true rfl, Nat.le_of_ble_eq_true rfl⟩
          refine m_callv hrun hM hS hA (fun M2 H locs hw hM hS => ?_)
          have eM2 := hw
          have g_x_ : M2 x = some (mO 7 [.ref a1, .ref a2, .ref a3, .ref a4, .int (nI nn), .int (nI nf), .int bd, .int st, .int c2, .int c3, .int c4]) := by rw [eM2]; exact mUp_at (m_ne g_x g_p0 (by simp)) g_x
          have g_a1_ : M2 a1 = some (mQ E 4 12 fi) := by rw [eM2]; exact mUp_at (m_ne g_a1 g_p0 (by simp)) g_a1
          have g_a2_ : M2 a2 = some (mQ E 5 10 fb) := by rw [eM2]; exact mUp_at (m_ne g_a2 g_p0 (by simp)) g_a2
          have g_a3_ : M2 a3 = some (mQ E 6 8 ff) := by rw [eM2]; exact mUp_at (m_ne g_a3 g_p0 (by simp)) g_a3
          have g_a4_ : M2 a4 = some (mDb E 40 wt) := by rw [eM2]; exact mUp_at (m_ne g_a4 g_p0 (by simp)) g_a4
          have g_q0_ : M2 q0 = some (mI E 4 kf) := by rw [eM2]; exact mUp_at (m_ne g_q0 g_p0 (by simp)) g_q0
          have g_x := g_x_
          have g_a1 := g_a1_
          have g_a2 := g_a2_
          have g_a3 := g_a3_
          have g_a4 := g_a4_
          have g_q0 := g_q0_
          have g_p0 : M2 p0 = some (mO ci [.ref q0, .int pt, .int o, .int ph, .double (sLev ci o pt le), va_rf (tb.map ra), .int f0]) := by rw [eM2]; exact mUp_self _ _ _
          refine lv_iload hx hb dX9_note_46 (lv_at hl 0 rfl) ?_
          exact m_iret hx hb hr hlocks hM hS (Nat.le_refl _) (Nat.le_refl _) dX9_note_48 (by exact ⟨(by show _ = (if vI nn i ∧ vP pt then _ else _); rw [if_pos ⟨hv, hp⟩, hjc, hins]; first | exact (if_pos c_29).symm | exact (if_neg c_29).symm), (by show cRep E _ NO x (if vI nn i ∧ vP pt then _ else _); rw [if_pos ⟨hv, hp⟩, hjc, hins, eM2, ep0, eq0]; exact (hC.inst hiK hj hins).rep), (by rw [eM2, ep0]; exact kx hno.1)⟩)
      · skip
        have hx9 : ¬ (vI nn i ∧ vP pt) := fun h => c_19 h.2.2
        refine lv_iconst (v := -1) hx hb dX9_note_22 (by decide) ?_
        exact m_iret hx hb hr hlocks hM hS (Nat.le_refl _) (Nat.le_refl _) dX9_note_23 (by first | (exact ⟨(if_neg hx9).symm, (by show cRep E _ NO x (if vI nn i ∧ vP pt then _ else _); rw [if_neg hx9]; exact hC0), kept.rf⟩) | (have hx9 : ¬ (vI nn i ∧ vP pt) := na1 hv; exact ⟨(if_neg hx9).symm, (by show cRep E _ NO x (if vI nn i ∧ vP pt then _ else _); rw [if_neg hx9]; exact hC0), kept.rf⟩))
  · rw [if_neg hv] at e_r1
    subst e_r1
    refine W.eq (g2 := F0 m 5 ls [.null]) rfl ?_
    refine lv_astoreN (lv' := [(4, .null), (0, .ref x), (1, .int i), (2, .int pt), (3, .int o)]) hx hb dX9_note_5 hl (by decide) rfl (fun ls hl => ?_)
    refine lv_aloadN hx hb dX9_note_7 (lv_at hl 0 rfl) ?_
    refine lv_ifnullN (tgt := 22) hx hb dX9_note_9 (by decide) ?_
    refine lv_iconst (v := -1) hx hb dX9_note_22 (by decide) ?_
    exact m_iret hx hb hr hlocks hM hS (Nat.le_refl _) (Nat.le_refl _) dX9_note_23 (by first | (exact ⟨(if_neg hx9).symm, (by show cRep E _ NO x (if vI nn i ∧ vP pt then _ else _); rw [if_neg hx9]; exact hC0), kept.rf⟩) | (have hx9 : ¬ (vI nn i ∧ vP pt) := na1 hv; exact ⟨(if_neg hx9).symm, (by show cRep E _ NO x (if vI nn i ∧ vP pt then _ else _); rw [if_neg hx9]; exact hC0), kept.rf⟩))
def aIsLent (σ : Sg) (a b : Int32) : Int32 := match σ with | (_, _, _, _, bk, _) => bI (vB a ∧ vB b ∧ bk a.toNatClampNeg = bk b.toNatClampNeg)
def aOf (σ : Sg) (b w : Int32) : Int32 := match σ with | (_, _, _, _, bk, rw, _) => if vB b ∧ ¬ w < 0 ∧ w ≤ 1 then (match bk b.toNatClampNeg with | none => -5 | some r => if w = 0 then (rw r).1 else nI (rw r).2.1) else -1
theorem map_inj {ra : Nat → Nat} {p q : Option Nat} (h : ∀ r s, p = some r → q = some s → ra r = ra s → r = s) : p.map ra = q.map ra ↔ p = q := by
  cases p with
  | none => cases q with
    | none => simp
    | some s => simp
  | some r => cases q with
    | none => simp
    | some s =>
      simp
      exact ⟨fun k => h r s rfl rfl k, fun k => by rw [k]⟩
set_option maxHeartbeats 4000000 in
set_option maxRecDepth 100000 in
theorem c_X9_isLent (l : Launch) (E : mEnv) (M : mMem) (sz : Nat) (NO : Nat → Prop) (x nn nf : Nat) (ins : Nat → sIn) (fn : Nat → Int32 × Int32) (bk : Nat → Option Nat) (rw : Nat → sRw) (bd st c2 c3 c4 : Int32) (hV : Inv (nn, ins, nf, fn, bk, rw, bd, st, c2, c3, c4)) (hC : cRep E M NO x (nn, ins, nf, fn, bk, rw, bd, st, c2, c3, c4)) (hO : ∀ q, NO q → M q ≠ none) (a b : Int32)    : Met l yX9_isLent wsX9_isLent ({ frames := 2, cells := 0, slots := 0, locals := 41 }) (mPre E M sz [.ref x, .int a, .int b]) (mQi E M sz (fun r u => r = aIsLent (nn, ins, nf, fn, bk, rw, bd, st, c2, c3, c4) a b ∧ cRep E u NO x ((nn, ins, nf, fn, bk, rw, bd, st, c2, c3, c4)) ∧ kept NO M u)) (0) (0) (mA M sz) := by
  refine m_met [.ref x, .int a, .int b] (by decide) rfl (Nat.le_of_ble_eq_true rfl) ?_
  intro p e s m below meth c ls H eH hx hb hr hts hown hlocks hnm hml hsz hE hM hS hA hl
  have hl : lv_has ls 3 [(0, .ref x), (1, .int a), (2, .int b)] := hl
  obtain ⟨a1, a2, a3, a4, fi, fb, ff, wt, ia, ib, fa, ra, rb, fl, LV, hC⟩ := hC
  have hC0 := hC.rep
  have hiK := hV.insK
  obtain ⟨hnn, hnf, hvI, hvD, hv24, hvR, hvF⟩ := id hV
  obtain ⟨⟨g_x, g_a1, g_a2, g_a3, g_a4⟩, hI, hF, hB, hL, hR, hJ, hN⟩ := id hC
  obtain ⟨⟨nx, n1, n2, n3, n4⟩, nI0, nF0, nR0⟩ := id hN
  refine lv_iload_n hx hb dX9_isLent_0 rfl (lv_at hl 1 rfl) ?_
  refine m_calli (va_runS (As := [.int a]) (rest := []) ⟨hx, hb, hml, hown, hts⟩ (c_X9_isBlock l E M H.size a) (va_cwS 1 hts gX9_isLent_X9_isBlock rfl rfl rfl (by decide +kernel) ⟨Nat.le_of_ble_eq_true rfl, Nat.le_of_ble_eq_true rfl⟩) (m_preS hE hM) rfl rfl hl.1 rfl (lv_room (Nat.le_of_ble_eq_true rfl)) dX9_isLent_1 ⟨Nat.le_of_ble_eq_true rfl, Nat.le_of_ble_eq_true rfl⟩) hM hS hA (fun r0 u H locs hw hM hS => ?_)
  obtain ⟨e_r0, eu⟩ := hw
  rw [eu] at hM
  subst e_r0
  refine lv_if_eq (tgt := 31) hx hb dX9_isLent_4 (by decide) (fun c_4 => ?_) (fun c_4 => ?_)
  · skip
    rw [bI_eq] at c_4
    have hz : ¬ (vB a ∧ vB b ∧ bk a.toNatClampNeg = bk b.toNatClampNeg) := na1 c_4
    refine lv_iconst (v := 0) hx hb dX9_isLent_31 (by decide) ?_
    exact m_zret hx hb hr hlocks hM hS (Nat.le_refl _) (Nat.le_refl _) dX9_isLent_32 (by first | exact Or.inl rfl | exact Or.inr rfl) (by first | exact ⟨(bI_f hz).symm, hC0, kept.rf⟩ | exact ⟨(bI_f (na2 (na2 (by rw [hjc, hjc2]; exact c_24)))).symm, hC0, kept.rf⟩ | exact ⟨(bI_t ⟨c_4, c_11, by rw [hjc, hjc2]; exact c_24⟩).symm, hC0, kept.rf⟩)
  · skip
    rw [bI_ne] at c_4
    refine lv_iload_n hx hb dX9_isLent_7 rfl (lv_at hl 2 rfl) ?_
    refine m_calli (va_runS (As := [.int b]) (rest := []) ⟨hx, hb, hml, hown, hts⟩ (c_X9_isBlock l E M H.size b) (va_cwS 1 hts gX9_isLent_X9_isBlock rfl rfl rfl (by decide +kernel) ⟨Nat.le_of_ble_eq_true rfl, Nat.le_of_ble_eq_true rfl⟩) (m_preS hE hM) rfl rfl hl.1 rfl (lv_room (Nat.le_of_ble_eq_true rfl)) dX9_isLent_8 ⟨Nat.le_of_ble_eq_true rfl, Nat.le_of_ble_eq_true rfl⟩) hM hS hA (fun r0 u H locs hw hM hS => ?_)
    obtain ⟨e_r0, eu⟩ := hw
    rw [eu] at hM
    subst e_r0
    refine lv_if_eq (tgt := 31) hx hb dX9_isLent_11 (by decide) (fun c_11 => ?_) (fun c_11 => ?_)
    · skip
      rw [bI_eq] at c_11
      have hz : ¬ (vB a ∧ vB b ∧ bk a.toNatClampNeg = bk b.toNatClampNeg) := na2 (na1 c_11)
      refine lv_iconst (v := 0) hx hb dX9_isLent_31 (by decide) ?_
      exact m_zret hx hb hr hlocks hM hS (Nat.le_refl _) (Nat.le_refl _) dX9_isLent_32 (by first | exact Or.inl rfl | exact Or.inr rfl) (by first | exact ⟨(bI_f hz).symm, hC0, kept.rf⟩ | exact ⟨(bI_f (na2 (na2 (by rw [hjc, hjc2]; exact c_24)))).symm, hC0, kept.rf⟩ | exact ⟨(bI_t ⟨c_4, c_11, by rw [hjc, hjc2]; exact c_24⟩).symm, hC0, kept.rf⟩)
    · skip
      rw [bI_ne] at c_11
      refine lv_aload_n hx hb dX9_isLent_14 rfl (lv_at hl 0 rfl) ?_
      refine lv_iload_n hx hb dX9_isLent_15 rfl (lv_at hl 1 rfl) ?_
      refine m_callq (va_runV (As := [.int a]) (rest := []) ⟨hx, hb, hml, hown, hts⟩ (c_X9_heldBy l E M H.size x a1 a2 a3 a4 nn nf bd st c2 c3 c4 fi fb ff wt a g_x g_a2) (cwV 1 hts gX9_isLent_X9_heldBy rfl rfl rfl (by decide +kernel) ⟨Nat.le_of_ble_eq_true rfl, Nat.le_of_ble_eq_true rfl⟩) (m_preV hE hM g_x rfl) rfl rfl hl.1 rfl (lv_room (Nat.le_of_ble_eq_true rfl)) dX9_isLent_16 ⟨Nat.le_of_ble_eq_true rfl, Nat.le_of_ble_eq_true rfl⟩) hM hS hA (fun r1 u H locs hw hM hS => ?_)
      obtain ⟨e_r1, eu⟩ := hw
      rw [eu] at hM
      refine lv_aload_n hx hb dX9_isLent_19 rfl (lv_at hl 0 rfl) ?_
      refine lv_iload_n hx hb dX9_isLent_20 rfl (lv_at hl 2 rfl) ?_
      refine m_callq (va_runV (As := [.int b]) (rest := [va_rf (r1)]) ⟨hx, hb, hml, hown, hts⟩ (c_X9_heldBy l E M H.size x a1 a2 a3 a4 nn nf bd st c2 c3 c4 fi fb ff wt b g_x g_a2) (cwV 1 hts gX9_isLent_X9_heldBy rfl rfl rfl (by decide +kernel) ⟨Nat.le_of_ble_eq_true rfl, Nat.le_of_ble_eq_true rfl⟩) (m_preV hE hM g_x rfl) rfl rfl hl.1 rfl (lv_room (by cases r1 <;> exact Nat.le_of_ble_eq_true rfl)) dX9_isLent_21 ⟨Nat.le_of_ble_eq_true rfl, Nat.le_of_ble_eq_true rfl⟩) hM hS hA (fun r2 u H locs hw hM hS => ?_)
      obtain ⟨e_r2, eu⟩ := hw
      rw [eu] at hM
      rw [if_pos c_4] at e_r1
      rw [if_pos c_11] at e_r2
      obtain ⟨j, hj, hij, hjc⟩ := vB_ix c_4
      obtain ⟨j2, hj2, hij2, hjc2⟩ := vB_ix c_11
      rw [hjc, hB j hj] at e_r1
      rw [hjc2, hB j2 hj2] at e_r2
      have hmap : (bk j).map ra = (bk j2).map ra ↔ bk j = bk j2 := map_inj (fun r s h1 h2 h3 => hJ.2.2.1 r s (hL r (Or.inl ⟨j, hj, h1⟩)) (hL s (Or.inl ⟨j2, hj2, h2⟩)) h3)
      rw [← e_r1, ← e_r2] at hmap
      refine lv_acmp_ne (rx := r1) (ry := r2) (tgt := 31) hx hb dX9_isLent_24 (by decide) (fun c_24 => ?_) (fun c_24 => ?_)
      · rw [hmap] at c_24
        refine lv_iconst (v := 0) hx hb dX9_isLent_31 (by decide) ?_
        exact m_zret hx hb hr hlocks hM hS (Nat.le_refl _) (Nat.le_refl _) dX9_isLent_32 (by first | exact Or.inl rfl | exact Or.inr rfl) (by first | exact ⟨(bI_f hz).symm, hC0, kept.rf⟩ | exact ⟨(bI_f (na2 (na2 (by rw [hjc, hjc2]; exact c_24)))).symm, hC0, kept.rf⟩ | exact ⟨(bI_t ⟨c_4, c_11, by rw [hjc, hjc2]; exact c_24⟩).symm, hC0, kept.rf⟩)
      · rw [hmap] at c_24
        refine lv_iconst (v := 1) hx hb dX9_isLent_27 (by decide) ?_
        refine lv_goto (tgt := 32) hx hb dX9_isLent_28 (by decide) ?_
        exact m_zret hx hb hr hlocks hM hS (Nat.le_refl _) (Nat.le_refl _) dX9_isLent_32 (by first | exact Or.inl rfl | exact Or.inr rfl) (by first | exact ⟨(bI_f hz).symm, hC0, kept.rf⟩ | exact ⟨(bI_f (na2 (na2 (by rw [hjc, hjc2]; exact c_24)))).symm, hC0, kept.rf⟩ | exact ⟨(bI_t ⟨c_4, c_11, by rw [hjc, hjc2]; exact c_24⟩).symm, hC0, kept.rf⟩)
theorem in_X9_of_X7 : ∀ w ∈ wsX70, w ∈ wsX9_of := by decide +kernel
set_option maxHeartbeats 4000000 in
set_option maxRecDepth 100000 in
theorem c_X9_of (l : Launch) (E : mEnv) (M : mMem) (sz : Nat) (NO : Nat → Prop) (x nn nf : Nat) (ins : Nat → sIn) (fn : Nat → Int32 × Int32) (bk : Nat → Option Nat) (rw : Nat → sRw) (bd st c2 c3 c4 : Int32) (hV : Inv (nn, ins, nf, fn, bk, rw, bd, st, c2, c3, c4)) (hC : cRep E M NO x (nn, ins, nf, fn, bk, rw, bd, st, c2, c3, c4)) (hO : ∀ q, NO q → M q ≠ none) (b w : Int32)    : Met l yX9_of wsX9_of ({ frames := 2, cells := 0, slots := 0, locals := 41 }) (mPre E M sz [.ref x, .int b, .int w]) (mQi E M sz (fun r u => r = aOf (nn, ins, nf, fn, bk, rw, bd, st, c2, c3, c4) b w ∧ cRep E u NO x ((nn, ins, nf, fn, bk, rw, bd, st, c2, c3, c4)) ∧ kept NO M u)) (0) (0) (mA M sz) := by
  refine m_met [.ref x, .int b, .int w] (by decide) rfl (Nat.le_of_ble_eq_true rfl) ?_
  intro p e s m below meth c ls H eH hx hb hr hts hown hlocks hnm hml hsz hE hM hS hA hl
  have hl : lv_has ls 4 [(0, .ref x), (1, .int b), (2, .int w)] := hl
  obtain ⟨a1, a2, a3, a4, fi, fb, ff, wt, ia, ib, fa, ra, rb, fl, LV, hC⟩ := hC
  have hC0 := hC.rep
  have hiK := hV.insK
  obtain ⟨hnn, hnf, hvI, hvD, hv24, hvR, hvF⟩ := id hV
  obtain ⟨⟨g_x, g_a1, g_a2, g_a3, g_a4⟩, hI, hF, hB, hL, hR, hJ, hN⟩ := id hC
  obtain ⟨⟨nx, n1, n2, n3, n4⟩, nI0, nF0, nR0⟩ := id hN
  refine lv_iload_n hx hb dX9_of_0 rfl (lv_at hl 1 rfl) ?_
  refine m_calli (va_runS (As := [.int b]) (rest := []) ⟨hx, hb, hml, hown, hts⟩ (c_X9_isBlock l E M H.size b) (va_cwS 1 hts gX9_of_X9_isBlock rfl rfl rfl (by decide +kernel) ⟨Nat.le_of_ble_eq_true rfl, Nat.le_of_ble_eq_true rfl⟩) (m_preS hE hM) rfl rfl hl.1 rfl (lv_room (Nat.le_of_ble_eq_true rfl)) dX9_of_1 ⟨Nat.le_of_ble_eq_true rfl, Nat.le_of_ble_eq_true rfl⟩) hM hS hA (fun r0 u H locs hw hM hS => ?_)
  obtain ⟨e_r0, eu⟩ := hw
  rw [eu] at hM
  subst e_r0
  refine lv_if_eq (tgt := 16) hx hb dX9_of_4 (by decide) (fun c_4 => ?_) (fun c_4 => ?_)
  · skip
    rw [bI_eq] at c_4
    have hz : ¬ (vB b ∧ ¬ w < 0 ∧ w ≤ 1) := na1 c_4
    refine lv_iconst (v := -1) hx hb dX9_of_16 (by decide) ?_
    exact m_iret hx hb hr hlocks hM hS (Nat.le_refl _) (Nat.le_refl _) dX9_of_17 (by exact ⟨(if_neg hz).symm, hC0, kept.rf⟩)
  · skip
    rw [bI_ne] at c_4
    refine lv_iload_n hx hb dX9_of_7 rfl (lv_at hl 2 rfl) ?_
    refine lv_if_lt (tgt := 16) hx hb dX9_of_8 (by decide) (fun c_8 => ?_) (fun c_8 => ?_)
    · skip
      have hz : ¬ (vB b ∧ ¬ w < 0 ∧ w ≤ 1) := na2 (na1 (not_not_intro c_8))
      refine lv_iconst (v := -1) hx hb dX9_of_16 (by decide) ?_
      exact m_iret hx hb hr hlocks hM hS (Nat.le_refl _) (Nat.le_refl _) dX9_of_17 (by exact ⟨(if_neg hz).symm, hC0, kept.rf⟩)
    · skip
      refine lv_iload_n hx hb dX9_of_11 rfl (lv_at hl 2 rfl) ?_
      refine lv_iconst (v := 1) hx hb dX9_of_12 (by decide) ?_
      refine lv_icmp_le (tgt := 18) hx hb dX9_of_13 (by decide) (fun c_13 => ?_) (fun c_13 => ?_)
      · skip
        refine lv_aload_n hx hb dX9_of_18 rfl (lv_at hl 0 rfl) ?_
        refine lv_iload_n hx hb dX9_of_19 rfl (lv_at hl 1 rfl) ?_
        refine m_callq (va_runV (As := [.int b]) (rest := []) ⟨hx, hb, hml, hown, hts⟩ (c_X9_heldBy l E M H.size x a1 a2 a3 a4 nn nf bd st c2 c3 c4 fi fb ff wt b g_x g_a2) (cwV 1 hts gX9_of_X9_heldBy rfl rfl rfl (by decide +kernel) ⟨Nat.le_of_ble_eq_true rfl, Nat.le_of_ble_eq_true rfl⟩) (m_preV hE hM g_x rfl) rfl rfl hl.1 rfl (lv_room (Nat.le_of_ble_eq_true rfl)) dX9_of_20 ⟨Nat.le_of_ble_eq_true rfl, Nat.le_of_ble_eq_true rfl⟩) hM hS hA (fun r1 u H locs hw hM hS => ?_)
        obtain ⟨e_r1, eu⟩ := hw
        rw [eu] at hM
        rw [if_pos c_4] at e_r1
        obtain ⟨j1, hj1, hij1, hjc1⟩ := vB_ix c_4
        rw [hjc1, hB j1 hj1] at e_r1
        rcases hbk1 : bk j1 with _ | w1
        · rw [hbk1] at e_r1
          replace e_r1 : r1 = none := e_r1
          subst e_r1
          refine W.eq (g2 := F0 m 23 ls [.null]) rfl ?_
          refine lv_astore_nN (lv' := [(3, .null), (0, .ref x), (1, .int b), (2, .int w)]) hx hb dX9_of_23 rfl hl (by decide) rfl (fun ls hl => ?_)
          refine lv_aload_nN hx hb dX9_of_24 rfl (lv_at hl 0 rfl) ?_
          refine lv_ifnonnullN hx hb dX9_of_25 ?_
          refine lv_bipush (v := -5) hx hb dX9_of_28 (by decide) ?_
          exact m_iret hx hb hr hlocks hM hS (Nat.le_refl _) (Nat.le_refl _) dX9_of_30 (by refine ⟨?_, hC0, kept.rf⟩; show _ = (if vB b ∧ ¬ w < 0 ∧ w ≤ 1 then _ else _); rw [if_pos ⟨c_4, c_8, c_13⟩, hjc1, hbk1])
        · rw [hbk1] at e_r1
          replace e_r1 : r1 = some (ra w1) := e_r1
          have hlv1 : live nn ins bk w1 := Or.inl ⟨j1, hj1, hbk1⟩
          rcases hrw1 : rw w1 with ⟨lane1, n1, f1⟩
          obtain ⟨g_s1, g_v1, hva1⟩ := hR w1 (hL w1 hlv1) _ _ _ hrw1
          obtain ⟨hn1, hlane1, hvo1⟩ := hvR w1 hlv1 _ _ _ hrw1
          have hnr1 := nR0 w1 (hL w1 hlv1)
          obtain ⟨s1, es1⟩ : ∃ z, z = ra w1 := ⟨_, rfl⟩
          obtain ⟨v1, ev1⟩ : ∃ z, z = rb w1 := ⟨_, rfl⟩
          rw [← es1, ← ev1] at g_s1
          rw [← ev1] at g_v1 hva1
          rw [← es1] at e_r1
          subst e_r1
          refine W.eq (g2 := F0 m 23 ls [.ref s1]) rfl ?_
          refine lv_astore_n (lv' := [(3, .ref s1), (0, .ref x), (1, .int b), (2, .int w)]) hx hb dX9_of_23 rfl hl (by decide) rfl (fun ls hl => ?_)
          refine lv_aload_n hx hb dX9_of_24 rfl (lv_at hl 0 rfl) ?_
          refine lv_ifnonnull (tgt := 31) hx hb dX9_of_25 (by decide) ?_
          refine lv_iload_n hx hb dX9_of_31 rfl (lv_at hl 3 rfl) ?_
          refine lv_if_ne (tgt := 42) hx hb dX9_of_32 (by decide) (fun c_32 => ?_) (fun c_32 => ?_)
          · skip
            refine lv_aload_n hx hb dX9_of_42 rfl (lv_at hl 0 rfl) ?_
            refine m_get (ci := 5) (v := .ref v1) (C := RX7) (T := TX7) (N := 2) hx hb hts in_X9_of_X7 hown hE hM g_s1 rfl 1 (by decide) (hts (.fieldLink RX9 88 "CallWays2$Samples" "values" "[D") (by decide +kernel)) (fun _ h9 => h9) rfl dX9_of_43 ?_
            refine m_alenD hx hb hE hM g_v1 dX9_of_46 ?_
            exact m_iret hx hb hr hlocks hM hS (Nat.le_refl _) (Nat.le_refl _) dX9_of_47 (by refine ⟨?_, hC0, kept.rf⟩; show _ = (if vB b ∧ ¬ w < 0 ∧ w ≤ 1 then _ else _); rw [if_pos ⟨c_4, c_8, c_13⟩, hjc1, hbk1]; show _ = (if w = 0 then (rw w1).1 else nI (rw w1).2.1); rw [hrw1]; first | exact (if_pos c_32).symm | exact (if_neg c_32).symm)
          · skip
            refine lv_aload_n hx hb dX9_of_35 rfl (lv_at hl 0 rfl) ?_
            refine m_get (ci := 5) (v := .int lane1) (C := RX7) (T := TX7) (N := 2) hx hb hts in_X9_of_X7 hown hE hM g_s1 rfl 0 (by decide) (hts (.fieldLink RX9 85 "CallWays2$Samples" "lane" "I") (by decide +kernel)) (fun _ h9 => h9) rfl dX9_of_36 ?_
            refine lv_goto (tgt := 47) hx hb dX9_of_39 (by decide) ?_
            exact m_iret hx hb hr hlocks hM hS (Nat.le_refl _) (Nat.le_refl _) dX9_of_47 (by refine ⟨?_, hC0, kept.rf⟩; show _ = (if vB b ∧ ¬ w < 0 ∧ w ≤ 1 then _ else _); rw [if_pos ⟨c_4, c_8, c_13⟩, hjc1, hbk1]; show _ = (if w = 0 then (rw w1).1 else nI (rw w1).2.1); rw [hrw1]; first | exact (if_pos c_32).symm | exact (if_neg c_32).symm)
      · skip
        have hz : ¬ (vB b ∧ ¬ w < 0 ∧ w ≤ 1) := na2 (na2 c_13)
        refine lv_iconst (v := -1) hx hb dX9_of_16 (by decide) ?_
        exact m_iret hx hb hr hlocks hM hS (Nat.le_refl _) (Nat.le_refl _) dX9_of_17 (by exact ⟨(if_neg hz).symm, hC0, kept.rf⟩)
