theorem in_X2_strike_X0 : ∀ w ∈ wsX00, w ∈ wsX2_strike := by decide +kernel
set_option maxHeartbeats 4000000 in
set_option maxRecDepth 100000 in
theorem c_X2_strike_0 (l : Launch) (E : mEnv) (M : mMem) (sz : Nat) (h0 kn : Nat) (pi on ph fl : Int32) (le : UInt64) (tab : Option Nat) (w o : Int32) (hon : o = 0 ∨ o = 1) (g_h0 : M h0 = some (mO 0 [.ref kn, .int pi, .int on, .int ph, .double le, va_rf (tab), .int fl]))  : Met l yX2_strike wsX2_strike ({ frames := 1, cells := 0, slots := 0, locals := 22 }) (mPre E M sz [.ref h0, .int w, .int o]) (mQv E M sz (fun u => u = mUp M h0 (mO 0 [.ref kn, .int w, .int o, .int ph, .double (if o = 0 then le else FP.i2d w), va_rf (tab), .int fl]))) (0) (0) (mA M sz) := by
  refine m_met [.ref h0, .int w, .int o] (by decide) rfl (Nat.le_of_ble_eq_true rfl) ?_
  intro p e s m below meth c ls H eH hx hb hr hts hown hlocks hnm hml hsz hE hM hS hA hl
  have hl : lv_has ls 3 [(0, .ref h0), (1, .int w), (2, .int o)] := hl
  refine lv_aload_n hx hb dX2_strike_0 rfl (lv_at hl 0 rfl) ?_
  refine lv_iload_n hx hb dX2_strike_1 rfl (lv_at hl 1 rfl) ?_
  refine lv_iload_n hx hb dX2_strike_2 rfl (lv_at hl 2 rfl) ?_
  refine m_callv (va_runSU (hE.1.1 0 _ rfl).2 (As := [.int w, .int o]) (rest := []) ⟨hx, hb, hml, hown, hts⟩ (c_X5_strike l E M H.size 0 (by unfold insK; decide) h0 kn pi on ph fl le tab w o hon g_h0) (va_cwSU 2 hts gX2_strike_X5_strike_s9 rfl rfl rfl (by decide +kernel) ⟨Nat.le_of_ble_eq_true rfl, Nat.le_of_ble_eq_true rfl⟩) (m_preV hE hM g_h0 rfl) rfl rfl hl.1 rfl (lv_room (Nat.le_of_ble_eq_true rfl)) dX2_strike_3 ⟨Nat.le_of_ble_eq_true rfl, Nat.le_of_ble_eq_true rfl⟩) hM hS hA (fun M2 H locs hw hM hS => ?_)
  have eM2 := hw
  have g_h0 : M2 h0 = some (mO 0 [.ref kn, .int w, .int o, .int ph, .double le, va_rf (tab), .int fl]) := by rw [eM2]; exact mUp_self _ _ _
  refine lv_iload_n hx hb dX2_strike_6 rfl (lv_at hl 2 rfl) ?_
  refine lv_if_eq (tgt := 16) hx hb dX2_strike_7 (by decide) (fun c_7 => ?_) (fun c_7 => ?_)
  · skip
    exact m_vret hx hb hr hlocks hM hS (Nat.le_refl _) (Nat.le_refl _) dX2_strike_16 (by show _ = _; first | (rw [if_pos c_7, eM2]; done) | (rw [if_pos c_7, eM2]; simp only [mUp_up]) | (rw [if_neg c_7, eM2]; simp only [mUp_up]))
  · skip
    refine lv_aload_n hx hb dX2_strike_10 rfl (lv_at hl 0 rfl) ?_
    refine lv_iload_n hx hb dX2_strike_11 rfl (lv_at hl 1 rfl) ?_
    refine lv_i2d hx hb dX2_strike_12 ?_
    refine m_put (ci := 0) (v := .double (FP.i2d w)) (ty := .double) (C := RX0) (T := TX0) (N := 7) hx hb hts in_X2_strike_X0 tyX0 tyX0_ok nmX0 hown hE hM hS g_h0 rfl 4 (by decide) (hts (.fieldLink RX2 13 "CallWays2$Drum" "level" "D") (by decide +kernel)) (u_same (hts (.sameField "CallWays2$Drum" "CallWays2$Instrument" "level" "D") (by decide +kernel))) rfl (by decide +kernel) rfl rfl (Nat.le_of_ble_eq_true rfl) dX2_strike_13 (fun H locs hM hS => ?_)
    have hM : mOK E.1 (mA M sz) (mUp M2 h0 (mO 0 [.ref kn, .int w, .int o, .int ph, .double (FP.i2d w), va_rf (tab), .int fl])) H := hM
    obtain ⟨M3, eM3⟩ : ∃ z, z = mUp M2 h0 (mO 0 [.ref kn, .int w, .int o, .int ph, .double (FP.i2d w), va_rf (tab), .int fl]) := ⟨_, rfl⟩
    rw [← eM3] at hM
    have g_h0 : M3 h0 = some (mO 0 [.ref kn, .int w, .int o, .int ph, .double (FP.i2d w), va_rf (tab), .int fl]) := by rw [eM3]; exact mUp_self _ _ _
    exact m_vret hx hb hr hlocks hM hS (Nat.le_refl _) (Nat.le_refl _) dX2_strike_16 (by show _ = _; first | (rw [if_pos c_7, eM3, eM2]; done) | (rw [if_pos c_7, eM3, eM2]; simp only [mUp_up]) | (rw [if_neg c_7, eM3, eM2]; simp only [mUp_up]))
theorem in_X2_strike_X2 : ∀ w ∈ wsX20, w ∈ wsX2_strike := by decide +kernel
set_option maxHeartbeats 4000000 in
set_option maxRecDepth 100000 in
theorem c_X2_strike_1 (l : Launch) (E : mEnv) (M : mMem) (sz : Nat) (h0 kn : Nat) (pi on ph fl : Int32) (le : UInt64) (tab : Option Nat) (w o : Int32) (hon : o = 0 ∨ o = 1) (g_h0 : M h0 = some (mO 1 [.ref kn, .int pi, .int on, .int ph, .double le, va_rf (tab), .int fl]))  : Met l yX2_strike wsX2_strike ({ frames := 1, cells := 0, slots := 0, locals := 22 }) (mPre E M sz [.ref h0, .int w, .int o]) (mQv E M sz (fun u => u = mUp M h0 (mO 1 [.ref kn, .int w, .int o, .int ph, .double (if o = 0 then le else FP.i2d w), va_rf (tab), .int fl]))) (0) (0) (mA M sz) := by
  refine m_met [.ref h0, .int w, .int o] (by decide) rfl (Nat.le_of_ble_eq_true rfl) ?_
  intro p e s m below meth c ls H eH hx hb hr hts hown hlocks hnm hml hsz hE hM hS hA hl
  have hl : lv_has ls 3 [(0, .ref h0), (1, .int w), (2, .int o)] := hl
  refine lv_aload_n hx hb dX2_strike_0 rfl (lv_at hl 0 rfl) ?_
  refine lv_iload_n hx hb dX2_strike_1 rfl (lv_at hl 1 rfl) ?_
  refine lv_iload_n hx hb dX2_strike_2 rfl (lv_at hl 2 rfl) ?_
  refine m_callv (va_runSU (hE.1.1 1 _ rfl).2 (As := [.int w, .int o]) (rest := []) ⟨hx, hb, hml, hown, hts⟩ (c_X5_strike l E M H.size 1 (by unfold insK; decide) h0 kn pi on ph fl le tab w o hon g_h0) (va_cwSU 2 hts gX2_strike_X5_strike_s9 rfl rfl rfl (by decide +kernel) ⟨Nat.le_of_ble_eq_true rfl, Nat.le_of_ble_eq_true rfl⟩) (m_preV hE hM g_h0 rfl) rfl rfl hl.1 rfl (lv_room (Nat.le_of_ble_eq_true rfl)) dX2_strike_3 ⟨Nat.le_of_ble_eq_true rfl, Nat.le_of_ble_eq_true rfl⟩) hM hS hA (fun M2 H locs hw hM hS => ?_)
  have eM2 := hw
  have g_h0 : M2 h0 = some (mO 1 [.ref kn, .int w, .int o, .int ph, .double le, va_rf (tab), .int fl]) := by rw [eM2]; exact mUp_self _ _ _
  refine lv_iload_n hx hb dX2_strike_6 rfl (lv_at hl 2 rfl) ?_
  refine lv_if_eq (tgt := 16) hx hb dX2_strike_7 (by decide) (fun c_7 => ?_) (fun c_7 => ?_)
  · skip
    exact m_vret hx hb hr hlocks hM hS (Nat.le_refl _) (Nat.le_refl _) dX2_strike_16 (by show _ = _; first | (rw [if_pos c_7, eM2]; done) | (rw [if_pos c_7, eM2]; simp only [mUp_up]) | (rw [if_neg c_7, eM2]; simp only [mUp_up]))
  · skip
    refine lv_aload_n hx hb dX2_strike_10 rfl (lv_at hl 0 rfl) ?_
    refine lv_iload_n hx hb dX2_strike_11 rfl (lv_at hl 1 rfl) ?_
    refine lv_i2d hx hb dX2_strike_12 ?_
    refine m_put (ci := 1) (v := .double (FP.i2d w)) (ty := .double) (C := RX2) (T := TX2) (N := 7) hx hb hts in_X2_strike_X2 tyX2 tyX2_ok nmX2 hown hE hM hS g_h0 rfl 4 (by decide) (hts (.fieldLink RX2 13 "CallWays2$Drum" "level" "D") (by decide +kernel)) (u_same (hts (.sameField "CallWays2$Drum" "CallWays2$Instrument" "level" "D") (by decide +kernel))) rfl (by decide +kernel) rfl rfl (Nat.le_of_ble_eq_true rfl) dX2_strike_13 (fun H locs hM hS => ?_)
    have hM : mOK E.1 (mA M sz) (mUp M2 h0 (mO 1 [.ref kn, .int w, .int o, .int ph, .double (FP.i2d w), va_rf (tab), .int fl])) H := hM
    obtain ⟨M3, eM3⟩ : ∃ z, z = mUp M2 h0 (mO 1 [.ref kn, .int w, .int o, .int ph, .double (FP.i2d w), va_rf (tab), .int fl]) := ⟨_, rfl⟩
    rw [← eM3] at hM
    have g_h0 : M3 h0 = some (mO 1 [.ref kn, .int w, .int o, .int ph, .double (FP.i2d w), va_rf (tab), .int fl]) := by rw [eM3]; exact mUp_self _ _ _
    exact m_vret hx hb hr hlocks hM hS (Nat.le_refl _) (Nat.le_refl _) dX2_strike_16 (by show _ = _; first | (rw [if_pos c_7, eM3, eM2]; done) | (rw [if_pos c_7, eM3, eM2]; simp only [mUp_up]) | (rw [if_neg c_7, eM3, eM2]; simp only [mUp_up]))
/-- what note() does to an instrument's level -/
def sLev (ci : Nat) (o w : Int32) (le : UInt64) : UInt64 := if ci = 0 ∨ ci = 1 then (if o = 0 then le else FP.i2d w) else le
set_option maxHeartbeats 4000000 in
set_option maxRecDepth 100000 in
theorem c_X8_give_6b (l : Launch) (E : mEnv) (M : mMem) (sz : Nat) (h0 kn : Nat) (pi on ph : Int32) (le : UInt64) (tab : Option Nat) (kf : Nat → Int32) (tb : tbT)  (g_h0 : M h0 = some (mO 6 [.ref kn, .int pi, .int on, .int ph, .double le, va_rf (tab), .int 0])) (g_kn : M kn = some (mI E 4 kf))  : Met l yX8_give wsX8_give ({ frames := 0, cells := 0, slots := 0, locals := 0 }) (mPre E M sz [.ref h0]) (mQd E M sz (fun r u => r = (sGive 6 kf pi on ph le tb).2.1 ∧ u = mUp M h0 (mO 6 [.ref kn, .int pi, .int on, .int ph, .double (sGive 6 kf pi on ph le tb).2.2, va_rf (tab), .int (sGive 6 kf pi on ph le tb).1]))) (0) (0) (mA M sz) := by
  refine m_met [.ref h0] (by decide) rfl (Nat.le_of_ble_eq_true rfl) ?_
  intro p e s m below meth c ls H eH hx hb hr hts hown hlocks hnm hml hsz hE hM hS hA hl
  have hl : lv_has ls 1 [(0, .ref h0)] := hl
  refine lv_aload_n hx hb dX8_give_0 rfl (lv_at hl 0 rfl) ?_
  refine m_get (ci := 6) (v := .int on) (C := RX8) (T := TX8) (N := 7) hx hb hts in_X8_give_X8 hown hE hM g_h0 rfl 2 (by decide) (hts (.fieldLink RX8 7 "CallWays2$Tone" "on" "Z") (by decide +kernel)) (u_same (hts (.sameField "CallWays2$Tone" "CallWays2$Instrument" "on" "Z") (by decide +kernel))) rfl dX8_give_1 ?_
  refine lv_if_eq (tgt := 28) hx hb dX8_give_4 (by decide) (fun c_4 => ?_) (fun c_4 => ?_)
  · skip
    refine lv_dconst0 hx hb dX8_give_28 ?_
    exact m_dret hx hb hr hlocks hM hS (Nat.le_refl _) (Nat.le_refl _) dX8_give_29 (by refine ⟨?_, (mUp_id g_h0).symm⟩; show _ = sTone pi on ph; unfold sTone; simp_all)
  · skip
    refine lv_aload_n hx hb dX8_give_7 rfl (lv_at hl 0 rfl) ?_
    refine m_get (ci := 6) (v := .int ph) (C := RX8) (T := TX8) (N := 7) hx hb hts in_X8_give_X8 hown hE hM g_h0 rfl 3 (by decide) (hts (.fieldLink RX8 13 "CallWays2$Tone" "phase" "I") (by decide +kernel)) (u_same (hts (.sameField "CallWays2$Tone" "CallWays2$Instrument" "phase" "I") (by decide +kernel))) rfl dX8_give_8 ?_
    refine lv_aload_n hx hb dX8_give_11 rfl (lv_at hl 0 rfl) ?_
    refine m_get (ci := 6) (v := .int pi) (C := RX8) (T := TX8) (N := 7) hx hb hts in_X8_give_X8 hown hE hM g_h0 rfl 1 (by decide) (hts (.fieldLink RX8 17 "CallWays2$Tone" "pitch" "I") (by decide +kernel)) (u_same (hts (.sameField "CallWays2$Tone" "CallWays2$Instrument" "pitch" "I") (by decide +kernel))) rfl dX8_give_12 ?_
    refine lv_imul hx hb dX8_give_15 ?_
    refine lv_sipush (v := 256) hx hb dX8_give_16 (by decide) ?_
    refine lv_irem hx hb dX8_give_19 (by decide) ?_
    refine lv_sipush (v := 128) hx hb dX8_give_20 (by decide) ?_
    refine lv_isub hx hb dX8_give_23 ?_
    refine lv_i2d hx hb dX8_give_24 ?_
    refine lv_goto (tgt := 29) hx hb dX8_give_25 (by decide) ?_
    exact m_dret hx hb hr hlocks hM hS (Nat.le_refl _) (Nat.le_refl _) dX8_give_29 (by refine ⟨?_, (mUp_id g_h0).symm⟩; show _ = sTone pi on ph; unfold sTone; simp_all)
theorem in_X5_ask_I : ∀ w ∈ wsX00 ++ wsX20 ++ wsX40 ++ wsX60 ++ wsX80, w ∈ wsX5_ask := by decide +kernel
set_option maxHeartbeats 4000000 in
set_option maxRecDepth 100000 in
theorem c_X5_ask (l : Launch) (E : mEnv) (M : mMem) (sz : Nat) (ci : Nat) (hci : insK ci) (h0 kn : Nat) (pi on ph : Int32) (le : UInt64) (tab : Option Nat) (kf : Nat → Int32) (tb : tbT) (fl : Int32) (htb : tbAt E M tab tb) (hle : dL le) (hnt : ∀ d, tb = some d → d.2.1 < 2 ^ 31) (g_h0 : M h0 = some (mO ci [.ref kn, .int pi, .int on, .int ph, .double le, va_rf (tab), .int fl])) (g_kn : M kn = some (mI E 4 kf))  : Met l yX5_ask wsX5_ask ({ frames := 3, cells := 0, slots := 0, locals := 66 }) (mPre E M sz [.ref h0]) (mQd E M sz (fun r u => r = (sGive ci kf pi on ph le tb).2.1 ∧ u = mUp M h0 (mO ci [.ref kn, .int pi, .int on, .int (ph + 1), .double ((sGive ci kf pi on ph le tb).2.2), va_rf (tab), .int ((sGive ci kf pi on ph le tb).1)]))) (0) (0) (mA M sz) := by
  refine m_met [.ref h0] (by decide) rfl (Nat.le_of_ble_eq_true rfl) ?_
  intro p e s m below meth c ls H eH hx hb hr hts hown hlocks hnm hml hsz hE hM hS hA hl
  have hl : lv_has ls 3 [(0, .ref h0)] := hl
  have g_h00 := g_h0
  refine lv_aload_n hx hb dX5_ask_0 rfl (lv_at hl 0 rfl) ?_
  refine lv_iconst (v := 0) hx hb dX5_ask_1 (by decide) ?_
  refine m_putI (v := .int 0) (ty := .int) hx hb hts in_X5_ask_I hown hE hM hS g_h0 hci 6 (by decide) (hts (.fieldLink RX5 23 "CallWays2$Instrument" "failure" "I") (by decide +kernel)) (fun _ h9 => h9) rfl (by decide +kernel) rfl rfl (Nat.le_of_ble_eq_true rfl) dX5_ask_2 (fun H locs hM hS => ?_)
  have hM : mOK E.1 (mA M sz) (mUp M h0 (mO ci [.ref kn, .int pi, .int on, .int ph, .double le, va_rf (tab), .int 0])) H := hM
  obtain ⟨M1, eM1⟩ : ∃ z, z = mUp M h0 (mO ci [.ref kn, .int pi, .int on, .int ph, .double le, va_rf (tab), .int 0]) := ⟨_, rfl⟩
  rw [← eM1] at hM
  have g_kn_ : M1 kn = some (mI E 4 kf) := by rw [eM1]; exact mUp_at (m_ne g_kn g_h0 (by simp)) g_kn
  have g_kn := g_kn_
  have g_h0 : M1 h0 = some (mO ci [.ref kn, .int pi, .int on, .int ph, .double le, va_rf (tab), .int 0]) := by rw [eM1]; exact mUp_self _ _ _
  refine lv_aload_n hx hb dX5_ask_5 rfl (lv_at hl 0 rfl) ?_
  have hMr := hM
  have hrun : va_Run p l e ({ frames := 3, cells := 0, slots := 0, locals := 66 } : Room) s m #[.ref h0] below meth c H locs 0 0 0 0 (F0 m 6 ls [.ref h0]) [] (mQd E M1 H.size (fun r u => r = (sGive ci kf pi on ph le tb).2.1 ∧ u = mUp M1 h0 (mO ci [.ref kn, .int pi, .int on, .int ph, .double (sGive ci kf pi on ph le tb).2.2, va_rf (tab), .int (sGive ci kf pi on ph le tb).1])) #[.ref h0]) (mA M1 H.size) := by
    rcases hci with rfl | rfl | rfl | rfl | rfl
    · exact va_runU (As := []) (rest := []) ⟨hx, hb, hml, hown, hts⟩ (c_X0_give l E M1 H.size h0 kn pi on ph le tab kf tb hle g_h0 g_kn) (va_cwA 0 hts gX5_ask_X0_give_u26X0 rfl rfl rfl (hE.2.2.2.1 _ (by decide)) (by decide +kernel) ⟨Nat.le_of_ble_eq_true rfl, Nat.le_of_ble_eq_true rfl⟩) (m_preV hE hMr g_h0 rfl) rfl rfl hl.1 rfl (lv_room (Nat.le_of_ble_eq_true rfl)) dX5_ask_6 ⟨Nat.le_of_ble_eq_true rfl, Nat.le_of_ble_eq_true rfl⟩
    · exact va_runU (As := []) (rest := []) ⟨hx, hb, hml, hown, hts⟩ (c_X2_give_1 l E M1 H.size h0 kn pi on ph le tab kf tb hle g_h0 g_kn) (va_cwA 0 hts gX5_ask_X2_give_u26X2 rfl rfl rfl (hE.2.2.2.1 _ (by decide)) (by decide +kernel) ⟨Nat.le_of_ble_eq_true rfl, Nat.le_of_ble_eq_true rfl⟩) (m_preV hE hMr g_h0 rfl) rfl rfl hl.1 rfl (lv_room (Nat.le_of_ble_eq_true rfl)) dX5_ask_6 ⟨Nat.le_of_ble_eq_true rfl, Nat.le_of_ble_eq_true rfl⟩
    · exact va_runU (As := []) (rest := []) ⟨hx, hb, hml, hown, hts⟩ (c_X4_give l E M1 H.size h0 kn pi on ph le tab kf tb g_h0 g_kn) (va_cwA 0 hts gX5_ask_X4_give_u26X4 rfl rfl rfl (hE.2.2.2.1 _ (by decide)) (by decide +kernel) ⟨Nat.le_of_ble_eq_true rfl, Nat.le_of_ble_eq_true rfl⟩) (m_preV hE hMr g_h0 rfl) rfl rfl hl.1 rfl (lv_room (Nat.le_of_ble_eq_true rfl)) dX5_ask_6 ⟨Nat.le_of_ble_eq_true rfl, Nat.le_of_ble_eq_true rfl⟩
    · cases tab with
      | none =>
        cases tb with
        | none => exact va_runU (As := []) (rest := []) ⟨hx, hb, hml, hown, hts⟩ (c_X6_give_n l E M1 H.size h0 kn pi on ph le kf g_h0 g_kn) (va_cwA 0 hts gX5_ask_X6_give_u26X6 rfl rfl rfl (hE.2.2.2.1 _ (by decide)) (by decide +kernel) ⟨Nat.le_of_ble_eq_true rfl, Nat.le_of_ble_eq_true rfl⟩) (m_preV hE hMr g_h0 rfl) rfl rfl hl.1 rfl (lv_room (Nat.le_of_ble_eq_true rfl)) dX5_ask_6 ⟨Nat.le_of_ble_eq_true rfl, Nat.le_of_ble_eq_true rfl⟩
        | some d => exact htb.elim
      | some t =>
        cases tb with
        | none => exact htb.elim
        | some d =>
          obtain ⟨v, k1, k2⟩ := htb
          obtain ⟨lane, n, f⟩ := d
          have g_t : M1 t = some (mO 5 [.int lane, .ref v]) := by rw [eM1]; exact mUp_at (m_ne k1 g_h00 (by simp)) k1
          have g_v : M1 v = some (mDb E n f) := by rw [eM1]; exact mUp_at (m_ne k2 g_h00 (by simp)) k2
          exact va_runU (As := []) (rest := []) ⟨hx, hb, hml, hown, hts⟩ (c_X6_give_s l E M1 H.size h0 kn pi on ph le kf t v n lane f (hnt _ rfl) g_h0 g_kn g_t g_v) (va_cwA 0 hts gX5_ask_X6_give_u26X6 rfl rfl rfl (hE.2.2.2.1 _ (by decide)) (by decide +kernel) ⟨Nat.le_of_ble_eq_true rfl, Nat.le_of_ble_eq_true rfl⟩) (m_preV hE hMr g_h0 rfl) rfl rfl hl.1 rfl (lv_room (Nat.le_of_ble_eq_true rfl)) dX5_ask_6 ⟨Nat.le_of_ble_eq_true rfl, Nat.le_of_ble_eq_true rfl⟩
    · exact va_runU (As := []) (rest := []) ⟨hx, hb, hml, hown, hts⟩ (c_X8_give_6b l E M1 H.size h0 kn pi on ph le tab kf tb g_h0 g_kn) (va_cwA 0 hts gX5_ask_X8_give_u26X8 rfl rfl rfl (hE.2.2.2.1 _ (by decide)) (by decide +kernel) ⟨Nat.le_of_ble_eq_true rfl, Nat.le_of_ble_eq_true rfl⟩) (m_preV hE hMr g_h0 rfl) rfl rfl hl.1 rfl (lv_room (Nat.le_of_ble_eq_true rfl)) dX5_ask_6 ⟨Nat.le_of_ble_eq_true rfl, Nat.le_of_ble_eq_true rfl⟩
  refine m_calld hrun hM hS hA (fun r1 M2 H locs hw hM hS => ?_)
  obtain ⟨e_r1, eM2⟩ := hw
  subst e_r1
  have g_kn_ : M2 kn = some (mI E 4 kf) := by rw [eM2]; exact mUp_at (m_ne g_kn g_h0 (by simp)) g_kn
  have g_kn := g_kn_
  have g_h0 : M2 h0 = some (mO ci [.ref kn, .int pi, .int on, .int ph, .double ((sGive ci kf pi on ph le tb).2.2), va_rf (tab), .int ((sGive ci kf pi on ph le tb).1)]) := by rw [eM2]; exact mUp_self _ _ _
  refine lv_dstore_n (lv' := [(1, .double ((sGive ci kf pi on ph le tb).2.1)), (0, .ref h0)]) hx hb dX5_ask_9 rfl hl (by decide) rfl (fun ls hl => ?_)
  refine lv_aload_n hx hb dX5_ask_10 rfl (lv_at hl 1 rfl) ?_
  refine lv_dup hx hb dX5_ask_11 rfl ?_
  refine m_getI (v := .int ph) hx hb hts in_X5_ask_I hown hE hM g_h0 hci 3 (by decide) (hts (.fieldLink RX5 30 "CallWays2$Instrument" "phase" "I") (by decide +kernel)) (fun _ h9 => h9) rfl dX5_ask_12 ?_
  refine lv_iconst (v := 1) hx hb dX5_ask_15 (by decide) ?_
  refine lv_iadd hx hb dX5_ask_16 ?_
  refine m_putI (v := .int (ph + 1)) (ty := .int) hx hb hts in_X5_ask_I hown hE hM hS g_h0 hci 3 (by decide) (hts (.fieldLink RX5 30 "CallWays2$Instrument" "phase" "I") (by decide +kernel)) (fun _ h9 => h9) rfl (by decide +kernel) rfl rfl (Nat.le_of_ble_eq_true rfl) dX5_ask_17 (fun H locs hM hS => ?_)
  have hM : mOK E.1 (mA M sz) (mUp M2 h0 (mO ci [.ref kn, .int pi, .int on, .int (ph + 1), .double ((sGive ci kf pi on ph le tb).2.2), va_rf (tab), .int ((sGive ci kf pi on ph le tb).1)])) H := hM
  obtain ⟨M3, eM3⟩ : ∃ z, z = mUp M2 h0 (mO ci [.ref kn, .int pi, .int on, .int (ph + 1), .double ((sGive ci kf pi on ph le tb).2.2), va_rf (tab), .int ((sGive ci kf pi on ph le tb).1)]) := ⟨_, rfl⟩
  rw [← eM3] at hM
  have g_kn_ : M3 kn = some (mI E 4 kf) := by rw [eM3]; exact mUp_at (m_ne g_kn g_h0 (by simp)) g_kn
  have g_kn := g_kn_
  have g_h0 : M3 h0 = some (mO ci [.ref kn, .int pi, .int on, .int (ph + 1), .double ((sGive ci kf pi on ph le tb).2.2), va_rf (tab), .int ((sGive ci kf pi on ph le tb).1)]) := by rw [eM3]; exact mUp_self _ _ _
  refine lv_dload_n hx hb dX5_ask_20 rfl (lv_at hl 0 rfl) ?_
  exact m_dret hx hb hr hlocks hM hS (Nat.le_refl _) (Nat.le_refl _) dX5_ask_21 (by exact ⟨rfl, by rw [eM3, eM2, eM1]; simp only [mUp_up]⟩)
