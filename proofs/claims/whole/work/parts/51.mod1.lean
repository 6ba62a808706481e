theorem fcmp_se {x : UInt32} (h : FP.fIsNaN x = false) : FP.fcmp x x = some .eq := FP.Core.fcmp_self ((FP.Core.notNaN_iff32 _).mp h)
theorem cast_f {x : UInt64} (h : FP.Core.DFin x) : sBits 2 (sTurn 2 x) = (FP.d2f x).toInt32.toInt64 := by
  show (FP.d2f (FP.f2d (FP.d2f x))).toInt32.toInt64 = _
  have h1 : FP.fIsNaN (FP.d2f x) = false := by rw [FP.d2f_nan]; exact h.notNaN
  have h2 : FP.dIsNaN (FP.f2d (FP.d2f x)) = false := by rw [FP.f2d_nan]; exact h1
  rw [FP.d2f_core h2, FP.f2d_core h1, FP.Core.d2f_f2d ((FP.Core.notNaN_iff32 _).mp h1)]
theorem vf_id {α : Type} {f : Nat → α} {j : Nat} {v : α} (h : f j = v) : vf_upd f j v = f := by
  funext q
  by_cases hq : q = j
  · subst hq; simp [vf_upd, h]
  · simp [vf_upd, hq]
theorem up_id {f : Nat → Int32} {j : Nat} {v : Int32} (h : f j = v) : upd f j v = f := by
  funext q
  by_cases hq : q = j
  · subst hq; simp [upd, h]
  · simp [upd, hq]
set_option maxHeartbeats 4000000 in
set_option maxRecDepth 100000 in
theorem c_JDnan (l : Launch) (E : mEnv) (M : mMem) (sz : Nat) (x : UInt64) (hx0 : FP.Core.DFin x)   : Met l yJxe99ae_isNaN_b9ae7 wsJxe99ae_isNaN_b9ae7 ({ frames := 0, cells := 0, slots := 0, locals := 0 }) (mPre E M sz [.double x]) (mQi E M sz (fun r u => r = 0 ∧ u = M)) (0) (0) (mA M sz) := by
  refine m_met [.double x] (by decide) rfl (Nat.le_of_ble_eq_true rfl) ?_
  intro p e s m below meth c ls H eH hx hb hr hts hown hlocks hnm hml hsz hE hM hS hA hl
  have hl : lv_has ls 2 [(0, .double x)] := hl
  refine lv_dload_n hx hb dJxe99ae_isNaN_b9ae7_0 rfl (lv_at hl 0 rfl) ?_
  refine lv_dload_n hx hb dJxe99ae_isNaN_b9ae7_1 rfl (lv_at hl 0 rfl) ?_
  refine lv_dcmp hx hb dJxe99ae_isNaN_b9ae7_2 ?_
  refine lv_if_eq (tgt := 10) hx hb dJxe99ae_isNaN_b9ae7_3 (by decide) (fun _ => ?_) (fun h9 => False.elim (by revert h9; exact (fun h => h ((cmpv_eq _ _).mpr (dcmp_se hx0)))))
  refine lv_iconst (v := 0) hx hb dJxe99ae_isNaN_b9ae7_10 (by decide) ?_
  exact m_zret hx hb hr hlocks hM hS (Nat.le_refl _) (Nat.le_refl _) dJxe99ae_isNaN_b9ae7_11 (by first | exact Or.inl rfl | exact Or.inr rfl) (by exact ⟨rfl, rfl⟩)
set_option maxHeartbeats 4000000 in
set_option maxRecDepth 100000 in
theorem c_JDbits (l : Launch) (E : mEnv) (M : mMem) (sz : Nat) (x : UInt64) (hx0 : FP.Core.DFin x)   : Met l yJxe99ae_doubleToLongBits_ccdee wsJxe99ae_doubleToLongBits_ccdee ({ frames := 1, cells := 0, slots := 0, locals := 30 }) (mPre E M sz [.double x]) (mQl E M sz (fun r u => r = x.toInt64 ∧ u = M)) (0) (0) (mA M sz) := by
  refine m_met [.double x] (by decide) rfl (Nat.le_of_ble_eq_true rfl) ?_
  intro p e s m below meth c ls H eH hx hb hr hts hown hlocks hnm hml hsz hE hM hS hA hl
  have hl : lv_has ls 2 [(0, .double x)] := hl
  refine lv_dload_n hx hb dJxe99ae_doubleToLongBits_ccdee_0 rfl (lv_at hl 0 rfl) ?_
  refine m_calli (va_runS (As := [.double x]) (rest := []) ⟨hx, hb, hml, hown, hts⟩ (c_JDnan l E M H.size x hx0) (va_cwS 1 hts gJxe99ae_doubleToLongBits_ccdee_Jxe99ae_isNaN_b9ae7 rfl rfl rfl (by decide +kernel) ⟨Nat.le_of_ble_eq_true rfl, Nat.le_of_ble_eq_true rfl⟩) (m_preS hE hM) rfl rfl hl.1 rfl (lv_room (Nat.le_of_ble_eq_true rfl)) dJxe99ae_doubleToLongBits_ccdee_1 ⟨Nat.le_of_ble_eq_true rfl, Nat.le_of_ble_eq_true rfl⟩) hM hS hA (fun r1 u H locs hw hM hS => ?_)
  obtain ⟨e_r1, eu⟩ := hw
  rw [eu] at hM
  subst e_r1
  refine lv_if_ne (tgt := 12) hx hb dJxe99ae_doubleToLongBits_ccdee_4 (by decide) (fun h9 => False.elim (by revert h9; exact (fun h => h rfl))) (fun _ => ?_)
  refine lv_dload_n hx hb dJxe99ae_doubleToLongBits_ccdee_7 rfl (lv_at hl 0 rfl) ?_
  refine vn_d2l hx hb (by rw [hml]; exact hl.1.symm) hown (hts (.methodLink RJxe99ae 134 ⟨"java/lang/Double", "doubleToRawLongBits", "(D)J"⟩) (by decide +kernel)) (hts (.native ⟨"java/lang/Double", "doubleToRawLongBits", "(D)J"⟩) (by decide +kernel)) (hts (.static ⟨"java/lang/Double", "doubleToRawLongBits", "(D)J"⟩) (by decide +kernel)) (hts (.initialized "java/lang/Double") (by decide +kernel)) (Nat.le_of_ble_eq_true rfl) (Nat.le_of_ble_eq_true rfl) dJxe99ae_doubleToLongBits_ccdee_8 ?_
  exact m_lret hx hb hr hlocks hM hS (Nat.le_refl _) (Nat.le_refl _) dJxe99ae_doubleToLongBits_ccdee_11 (by exact ⟨rfl, rfl⟩)
set_option maxHeartbeats 4000000 in
set_option maxRecDepth 100000 in
theorem c_JFnan (l : Launch) (E : mEnv) (M : mMem) (sz : Nat) (x : UInt32) (hx0 : FP.fIsNaN x = false)   : Met l yJxf58ca_isNaN_12338 wsJxf58ca_isNaN_12338 ({ frames := 0, cells := 0, slots := 0, locals := 0 }) (mPre E M sz [.float x]) (mQi E M sz (fun r u => r = 0 ∧ u = M)) (0) (0) (mA M sz) := by
  refine m_metF [.float x] (by decide +kernel) rfl (Nat.le_of_ble_eq_true rfl) ?_
  intro p e s m below meth c ls H eH hx hb hr hts hown hlocks hnm hml hsz hE hM hS hA hl
  have hl : lv_has ls 1 [(0, .float x)] := hl
  refine lv_fload_n hx hb dJxf58ca_isNaN_12338_0 rfl (lv_at hl 0 rfl) ?_
  refine lv_fload_n hx hb dJxf58ca_isNaN_12338_1 rfl (lv_at hl 0 rfl) ?_
  refine lv_fcmp hx hb dJxf58ca_isNaN_12338_2 ?_
  refine lv_if_eq (tgt := 10) hx hb dJxf58ca_isNaN_12338_3 (by decide) (fun _ => ?_) (fun h9 => False.elim (by revert h9; exact (fun h => h ((cmpv_eq _ _).mpr (fcmp_se hx0)))))
  refine lv_iconst (v := 0) hx hb dJxf58ca_isNaN_12338_10 (by decide) ?_
  exact m_zret hx hb hr hlocks hM hS (Nat.le_refl _) (Nat.le_refl _) dJxf58ca_isNaN_12338_11 (by first | exact Or.inl rfl | exact Or.inr rfl) (by exact ⟨rfl, rfl⟩)
set_option maxHeartbeats 4000000 in
set_option maxRecDepth 100000 in
theorem c_JFbits (l : Launch) (E : mEnv) (M : mMem) (sz : Nat) (x : UInt32) (hx0 : FP.fIsNaN x = false)   : Met l yJxf58ca_floatToIntBits_5c35a wsJxf58ca_floatToIntBits_5c35a ({ frames := 1, cells := 0, slots := 0, locals := 30 }) (mPre E M sz [.float x]) (mQi E M sz (fun r u => r = x.toInt32 ∧ u = M)) (0) (0) (mA M sz) := by
  refine m_metF [.float x] (by decide +kernel) rfl (Nat.le_of_ble_eq_true rfl) ?_
  intro p e s m below meth c ls H eH hx hb hr hts hown hlocks hnm hml hsz hE hM hS hA hl
  have hl : lv_has ls 1 [(0, .float x)] := hl
  refine lv_fload_n hx hb dJxf58ca_floatToIntBits_5c35a_0 rfl (lv_at hl 0 rfl) ?_
  refine m_calli (va_runS (As := [.float x]) (rest := []) ⟨hx, hb, hml, hown, hts⟩ (c_JFnan l E M H.size x hx0) (va_cwS 1 hts gJxf58ca_floatToIntBits_5c35a_Jxf58ca_isNaN_12338 rfl rfl rfl (by decide +kernel) ⟨Nat.le_of_ble_eq_true rfl, Nat.le_of_ble_eq_true rfl⟩) (m_preS hE hM) rfl rfl hl.1 rfl (lv_room (Nat.le_of_ble_eq_true rfl)) dJxf58ca_floatToIntBits_5c35a_1 ⟨Nat.le_of_ble_eq_true rfl, Nat.le_of_ble_eq_true rfl⟩) hM hS hA (fun r1 u H locs hw hM hS => ?_)
  obtain ⟨e_r1, eu⟩ := hw
  rw [eu] at hM
  subst e_r1
  refine lv_if_ne (tgt := 12) hx hb dJxf58ca_floatToIntBits_5c35a_4 (by decide) (fun h9 => False.elim (by revert h9; exact (fun h => h rfl))) (fun _ => ?_)
  refine lv_fload_n hx hb dJxf58ca_floatToIntBits_5c35a_7 rfl (lv_at hl 0 rfl) ?_
  refine vn_f2i hx hb (by rw [hml]; exact hl.1.symm) hown (hts (.methodLink RJxf58ca 74 ⟨"java/lang/Float", "floatToRawIntBits", "(F)I"⟩) (by decide +kernel)) (hts (.native ⟨"java/lang/Float", "floatToRawIntBits", "(F)I"⟩) (by decide +kernel)) (hts (.static ⟨"java/lang/Float", "floatToRawIntBits", "(F)I"⟩) (by decide +kernel)) (hts (.initialized "java/lang/Float") (by decide +kernel)) (Nat.le_of_ble_eq_true rfl) (Nat.le_of_ble_eq_true rfl) dJxf58ca_floatToIntBits_5c35a_8 ?_
  exact m_iret hx hb hr hlocks hM hS (Nat.le_refl _) (Nat.le_refl _) dJxf58ca_floatToIntBits_5c35a_11 (by exact ⟨rfl, rfl⟩)
set_option maxHeartbeats 4000000 in
set_option maxRecDepth 100000 in
theorem c_X10_isMinus (l : Launch) (E : mEnv) (M : mMem) (sz : Nat) (x : UInt64) (hx0 : FP.Core.DFin x)   : Met l yX10_isMinus wsX10_isMinus ({ frames := 2, cells := 0, slots := 0, locals := 51 }) (mPre E M sz [.double x]) (mQi E M sz (fun r u => r = bI (2 ^ 63 ≤ x.toNat) ∧ u = M)) (0) (0) (mA M sz) := by
  refine m_met [.double x] (by decide) rfl (Nat.le_of_ble_eq_true rfl) ?_
  intro p e s m below meth c ls H eH hx hb hr hts hown hlocks hnm hml hsz hE hM hS hA hl
  have hl : lv_has ls 2 [(0, .double x)] := hl
  refine lv_dload_n hx hb dX10_isMinus_0 rfl (lv_at hl 0 rfl) ?_
  refine m_calll (va_runS (As := [.double x]) (rest := []) ⟨hx, hb, hml, hown, hts⟩ (c_JDbits l E M H.size x hx0) (va_cwS 1 hts gX10_isMinus_Jxe99ae_doubleToLongBits_ccdee rfl rfl rfl (by decide +kernel) ⟨Nat.le_of_ble_eq_true rfl, Nat.le_of_ble_eq_true rfl⟩) (m_preS hE hM) rfl rfl hl.1 rfl (lv_room (Nat.le_of_ble_eq_true rfl)) dX10_isMinus_1 ⟨Nat.le_of_ble_eq_true rfl, Nat.le_of_ble_eq_true rfl⟩) hM hS hA (fun r1 u H locs hw hM hS => ?_)
  obtain ⟨e_r1, eu⟩ := hw
  rw [eu] at hM
  subst e_r1
  refine lv_lconst (v := 0) hx hb dX10_isMinus_4 (by decide) ?_
  refine W.lcmp hx hb dX10_isMinus_5 ?_
  refine lv_if_ge (tgt := 13) hx hb dX10_isMinus_6 (by decide) (fun c_6 => ?_) (fun c_6 => ?_)
  · skip
    rw [lge] at c_6
    refine lv_iconst (v := 0) hx hb dX10_isMinus_13 (by decide) ?_
    exact m_zret hx hb hr hlocks hM hS (Nat.le_refl _) (Nat.le_refl _) dX10_isMinus_14 (by first | exact Or.inl rfl | exact Or.inr rfl) (by first | exact ⟨(bI_t c_6).symm, rfl⟩ | exact ⟨(bI_f c_6).symm, rfl⟩)
  · skip
    rw [lge, Classical.not_not] at c_6
    refine lv_iconst (v := 1) hx hb dX10_isMinus_9 (by decide) ?_
    refine lv_goto (tgt := 14) hx hb dX10_isMinus_10 (by decide) ?_
    exact m_zret hx hb hr hlocks hM hS (Nat.le_refl _) (Nat.le_refl _) dX10_isMinus_14 (by first | exact Or.inl rfl | exact Or.inr rfl) (by first | exact ⟨(bI_t c_6).symm, rfl⟩ | exact ⟨(bI_f c_6).symm, rfl⟩)
set_option maxHeartbeats 4000000 in
set_option maxRecDepth 100000 in
theorem c_X10_cast (l : Launch) (E : mEnv) (M : mMem) (sz : Nat) (lane : Int32) (x : UInt64) (hx0 : FP.Core.DFin x) (hl0 : lane = 0 ∨ lane = 1 ∨ lane = 2 ∨ lane = 3)   : Met l yX10_cast wsX10_cast ({ frames := 2, cells := 0, slots := 0, locals := 51 }) (mPre E M sz [.int lane, .double x]) (mQl E M sz (fun r u => r = sBits lane (sTurn lane x) ∧ u = M)) (0) (0) (mA M sz) := by
  refine m_met [.int lane, .double x] (by decide) rfl (Nat.le_of_ble_eq_true rfl) ?_
  intro p e s m below meth c ls H eH hx hb hr hts hown hlocks hnm hml hsz hE hM hS hA hl
  have hl : lv_has ls 3 [(0, .int lane), (1, .double x)] := hl
  refine lv_iload_n hx hb dX10_cast_0 rfl (lv_at hl 0 rfl) ?_
  refine lv_if_ne (tgt := 11) hx hb dX10_cast_1 (by decide) (fun c_1 => ?_) (fun c_1 => ?_)
  · skip
    refine lv_iload_n hx hb dX10_cast_11 rfl (lv_at hl 0 rfl) ?_
    refine lv_iconst (v := 1) hx hb dX10_cast_12 (by decide) ?_
    refine lv_icmp_ne (tgt := 22) hx hb dX10_cast_13 (by decide) (fun c_13 => ?_) (fun c_13 => ?_)
    · skip
      refine lv_iload_n hx hb dX10_cast_22 rfl (lv_at hl 0 rfl) ?_
      refine lv_iconst (v := 2) hx hb dX10_cast_23 (by decide) ?_
      refine lv_icmp_ne (tgt := 36) hx hb dX10_cast_24 (by decide) (fun c_24 => ?_) (fun c_24 => ?_)
      · skip
        have h3 : lane = 3 := ((hl0.resolve_left c_1).resolve_left c_13).resolve_left c_24
        refine lv_dload_n hx hb dX10_cast_36 rfl (lv_at hl 1 rfl) ?_
        refine m_calll (va_runS (As := [.double x]) (rest := []) ⟨hx, hb, hml, hown, hts⟩ (c_JDbits l E M H.size x hx0) (va_cwS 1 hts gX10_cast_Jxe99ae_doubleToLongBits_ccdee rfl rfl rfl (by decide +kernel) ⟨Nat.le_of_ble_eq_true rfl, Nat.le_of_ble_eq_true rfl⟩) (m_preS hE hM) rfl rfl hl.1 rfl (lv_room (Nat.le_of_ble_eq_true rfl)) dX10_cast_37 ⟨Nat.le_of_ble_eq_true rfl, Nat.le_of_ble_eq_true rfl⟩) hM hS hA (fun r1 u H locs hw hM hS => ?_)
        obtain ⟨e_r1, eu⟩ := hw
        rw [eu] at hM
        subst e_r1
        exact m_lret hx hb hr hlocks hM hS (Nat.le_refl _) (Nat.le_refl _) dX10_cast_40 (by refine ⟨?_, rfl⟩; first | (subst c_1; exact (sBits0 _).symm) | (subst c_13; exact (sBits1 _).symm) | (subst c_24; exact (cast_f hx0).symm) | (subst h3; rfl))
      · skip
        refine lv_dload_n hx hb dX10_cast_27 rfl (lv_at hl 1 rfl) ?_
        refine lv_d2f hx hb dX10_cast_28 (nn_d2f hx0) ?_
        refine m_calli (va_runS (As := [.float (FP.d2f x)]) (rest := []) ⟨hx, hb, hml, hown, hts⟩ (c_JFbits l E M H.size (FP.d2f x) (by rw [FP.d2f_nan]; exact hx0.notNaN)) (va_cwS 1 hts gX10_cast_Jxf58ca_floatToIntBits_5c35a rfl rfl rfl (by decide +kernel) ⟨Nat.le_of_ble_eq_true rfl, Nat.le_of_ble_eq_true rfl⟩) (m_preS hE hM) rfl rfl hl.1 rfl (lv_room (Nat.le_of_ble_eq_true rfl)) dX10_cast_29 ⟨Nat.le_of_ble_eq_true rfl, Nat.le_of_ble_eq_true rfl⟩) hM hS hA (fun r1 u H locs hw hM hS => ?_)
        obtain ⟨e_r1, eu⟩ := hw
        rw [eu] at hM
        subst e_r1
        refine lv_i2l hx hb dX10_cast_32 rfl ?_
        refine lv_goto (tgt := 40) hx hb dX10_cast_33 (by decide) ?_
        exact m_lret hx hb hr hlocks hM hS (Nat.le_refl _) (Nat.le_refl _) dX10_cast_40 (by refine ⟨?_, rfl⟩; first | (subst c_1; exact (sBits0 _).symm) | (subst c_13; exact (sBits1 _).symm) | (subst c_24; exact (cast_f hx0).symm) | (subst h3; rfl))
    · skip
      refine lv_dload_n hx hb dX10_cast_16 rfl (lv_at hl 1 rfl) ?_
      refine lv_d2i hx hb dX10_cast_17 ?_
      refine lv_i2l hx hb dX10_cast_18 rfl ?_
      refine lv_goto (tgt := 40) hx hb dX10_cast_19 (by decide) ?_
      exact m_lret hx hb hr hlocks hM hS (Nat.le_refl _) (Nat.le_refl _) dX10_cast_40 (by refine ⟨?_, rfl⟩; first | (subst c_1; exact (sBits0 _).symm) | (subst c_13; exact (sBits1 _).symm) | (subst c_24; exact (cast_f hx0).symm) | (subst h3; rfl))
  · skip
    refine lv_dload_n hx hb dX10_cast_4 rfl (lv_at hl 1 rfl) ?_
    refine lv_d2i hx hb dX10_cast_5 ?_
    refine lv_i2s hx hb dX10_cast_6 rfl ?_
    refine lv_i2l hx hb dX10_cast_7 rfl ?_
    refine lv_goto (tgt := 40) hx hb dX10_cast_8 (by decide) ?_
    exact m_lret hx hb hr hlocks hM hS (Nat.le_refl _) (Nat.le_refl _) dX10_cast_40 (by refine ⟨?_, rfl⟩; first | (subst c_1; exact (sBits0 _).symm) | (subst c_13; exact (sBits1 _).symm) | (subst c_24; exact (cast_f hx0).symm) | (subst h3; rfl))
theorem in_X10_isInstrument_X10 : ∀ w ∈ wsX100, w ∈ wsX10_isInstrument := by decide +kernel
set_option maxHeartbeats 4000000 in
set_option maxRecDepth 100000 in
theorem c_X10_isInst (l : Launch) (E : mEnv) (M : mMem) (sz : Nat) (y b1 b2 b3 b4 b5 b6 b7 b8 b9 b10 b11 b12 b13 b14 b15 b16 : Nat) (nf0 bd st fa : Int32) (nn : Nat) (hnn : nn ≤ 12) (i : Int32) (g_y : M y = some (mO 8 [.ref b1, .ref b2, .ref b3, .ref b4, .ref b5, .int (nI nn), .ref b6, .ref b7, .ref b8, .ref b9, .ref b10, .ref b11, .int nf0, .ref b12, .ref b13, .int bd, .int st, .int fa, .ref b14, .ref b15, .ref b16]))  : Met l yX10_isInstrument wsX10_isInstrument ({ frames := 1, cells := 0, slots := 0, locals := 22 }) (mPre E M sz [.ref y, .int i]) (mQi E M sz (fun r u => r = bI (vI nn i) ∧ u = M)) (0) (0) (mA M sz) := by
  refine m_met [.ref y, .int i] (by decide) rfl (Nat.le_of_ble_eq_true rfl) ?_
  intro p e s m below meth c ls H eH hx hb hr hts hown hlocks hnm hml hsz hE hM hS hA hl
  have hl : lv_has ls 2 [(0, .ref y), (1, .int i)] := hl
  refine lv_iload_n hx hb dX10_isInstrument_0 rfl (lv_at hl 1 rfl) ?_
  refine lv_iconst (v := 0) hx hb dX10_isInstrument_1 (by decide) ?_
  refine lv_aload_n hx hb dX10_isInstrument_2 rfl (lv_at hl 0 rfl) ?_
  refine m_get (ci := 8) (v := .int (nI nn)) (C := RX10) (T := TX10) (N := 21) hx hb hts in_X10_isInstrument_X10 hown hE hM g_y rfl 5 (by decide) (hts (.fieldLink RX10 65 "CallWays2Model" "instruments" "I") (by decide +kernel)) (fun _ h9 => h9) rfl dX10_isInstrument_3 ?_
  refine lv_iconst (v := 1) hx hb dX10_isInstrument_6 (by decide) ?_
  refine lv_isub hx hb dX10_isInstrument_7 ?_
  refine m_calli (va_runS (As := [.int i, .int 0, .int ((nI nn) - 1)]) (rest := []) ⟨hx, hb, hml, hown, hts⟩ (c_X10_in l E M H.size i 0 (nI nn - 1)) (va_cwS 3 hts gX10_isInstrument_X10_in rfl rfl rfl (by decide +kernel) ⟨Nat.le_of_ble_eq_true rfl, Nat.le_of_ble_eq_true rfl⟩) (m_preS hE hM) rfl rfl hl.1 rfl (lv_room (Nat.le_of_ble_eq_true rfl)) dX10_isInstrument_8 ⟨Nat.le_of_ble_eq_true rfl, Nat.le_of_ble_eq_true rfl⟩) hM hS hA (fun r0 u H locs hw hM hS => ?_)
  obtain ⟨e_r0, eu⟩ := hw
  rw [eu] at hM
  rw [bI_congr (in_m1 (by omega))] at e_r0
  subst e_r0
  exact m_zret hx hb hr hlocks hM hS (Nat.le_refl _) (Nat.le_refl _) dX10_isInstrument_11 bI_01 (by exact ⟨rfl, rfl⟩)
theorem in_X10_says_X10 : ∀ w ∈ wsX100, w ∈ wsX10_says := by decide +kernel
set_option maxHeartbeats 4000000 in
set_option maxRecDepth 100000 in
theorem c_X10_says (l : Launch) (E : mEnv) (M : mMem) (sz : Nat) (y b1 b2 b3 b4 b5 b6 b7 b8 b9 b10 b11 b12 b13 b14 b15 b16 : Nat) (ni nf0 bd st fa : Int32) (w : Int32) (g_y : M y = some (mO 8 [.ref b1, .ref b2, .ref b3, .ref b4, .ref b5, .int ni, .ref b6, .ref b7, .ref b8, .ref b9, .ref b10, .ref b11, .int nf0, .ref b12, .ref b13, .int bd, .int st, .int fa, .ref b14, .ref b15, .ref b16]))  : Met l yX10_says wsX10_says ({ frames := 0, cells := 0, slots := 0, locals := 0 }) (mPre E M sz [.ref y, .int w]) (mQi E M sz (fun r u => r = w ∧ u = mUp M y (mO 8 [.ref b1, .ref b2, .ref b3, .ref b4, .ref b5, .int ni, .ref b6, .ref b7, .ref b8, .ref b9, .ref b10, .ref b11, .int nf0, .ref b12, .ref b13, .int bd, .int (if w < 0 then w else 0), .int fa, .ref b14, .ref b15, .ref b16]))) (0) (0) (mA M sz) := by
  refine m_met [.ref y, .int w] (by decide) rfl (Nat.le_of_ble_eq_true rfl) ?_
  intro p e s m below meth c ls H eH hx hb hr hts hown hlocks hnm hml hsz hE hM hS hA hl
  have hl : lv_has ls 2 [(0, .ref y), (1, .int w)] := hl
  refine lv_aload_n hx hb dX10_says_0 rfl (lv_at hl 0 rfl) ?_
  refine lv_iload_n hx hb dX10_says_1 rfl (lv_at hl 1 rfl) ?_
  refine lv_if_ge (tgt := 9) hx hb dX10_says_2 (by decide) (fun c_2 => ?_) (fun c_2 => ?_)
  · skip
    refine lv_iconst (v := 0) hx hb dX10_says_9 (by decide) ?_
    refine m_put (ci := 8) (v := .int 0) (ty := .int) (C := RX10) (T := TX10) (N := 21) hx hb hts in_X10_says_X10 tyX10 tyX10_ok nmX10 hown hE hM hS g_y rfl 16 (by decide) (hts (.fieldLink RX10 72 "CallWays2Model" "stateNow" "I") (by decide +kernel)) (fun _ h9 => h9) rfl (by decide +kernel) rfl rfl (Nat.le_of_ble_eq_true rfl) dX10_says_10 (fun H locs hM hS => ?_)
    have hM : mOK E.1 (mA M sz) (mUp M y (mO 8 [.ref b1, .ref b2, .ref b3, .ref b4, .ref b5, .int ni, .ref b6, .ref b7, .ref b8, .ref b9, .ref b10, .ref b11, .int nf0, .ref b12, .ref b13, .int bd, .int 0, .int fa, .ref b14, .ref b15, .ref b16])) H := hM
    obtain ⟨M1, eM1⟩ : ∃ z, z = mUp M y (mO 8 [.ref b1, .ref b2, .ref b3, .ref b4, .ref b5, .int ni, .ref b6, .ref b7, .ref b8, .ref b9, .ref b10, .ref b11, .int nf0, .ref b12, .ref b13, .int bd, .int 0, .int fa, .ref b14, .ref b15, .ref b16]) := ⟨_, rfl⟩
    rw [← eM1] at hM
    have g_y : M1 y = some (mO 8 [.ref b1, .ref b2, .ref b3, .ref b4, .ref b5, .int ni, .ref b6, .ref b7, .ref b8, .ref b9, .ref b10, .ref b11, .int nf0, .ref b12, .ref b13, .int bd, .int 0, .int fa, .ref b14, .ref b15, .ref b16]) := by rw [eM1]; exact mUp_self _ _ _
    refine lv_iload_n hx hb dX10_says_13 rfl (lv_at hl 1 rfl) ?_
    exact m_iret hx hb hr hlocks hM hS (Nat.le_refl _) (Nat.le_refl _) dX10_says_14 (by refine ⟨rfl, ?_⟩; rw [eM1]; first | rw [if_pos (Int32.not_le.mp c_2)] | rw [if_neg (Int32.not_lt.mpr c_2)])
  · skip
    refine lv_iload_n hx hb dX10_says_5 rfl (lv_at hl 1 rfl) ?_
    refine lv_goto (tgt := 10) hx hb dX10_says_6 (by decide) ?_
    refine m_put (ci := 8) (v := .int w) (ty := .int) (C := RX10) (T := TX10) (N := 21) hx hb hts in_X10_says_X10 tyX10 tyX10_ok nmX10 hown hE hM hS g_y rfl 16 (by decide) (hts (.fieldLink RX10 72 "CallWays2Model" "stateNow" "I") (by decide +kernel)) (fun _ h9 => h9) rfl (by decide +kernel) rfl rfl (Nat.le_of_ble_eq_true rfl) dX10_says_10 (fun H locs hM hS => ?_)
    have hM : mOK E.1 (mA M sz) (mUp M y (mO 8 [.ref b1, .ref b2, .ref b3, .ref b4, .ref b5, .int ni, .ref b6, .ref b7, .ref b8, .ref b9, .ref b10, .ref b11, .int nf0, .ref b12, .ref b13, .int bd, .int w, .int fa, .ref b14, .ref b15, .ref b16])) H := hM
    obtain ⟨M2, eM2⟩ : ∃ z, z = mUp M y (mO 8 [.ref b1, .ref b2, .ref b3, .ref b4, .ref b5, .int ni, .ref b6, .ref b7, .ref b8, .ref b9, .ref b10, .ref b11, .int nf0, .ref b12, .ref b13, .int bd, .int w, .int fa, .ref b14, .ref b15, .ref b16]) := ⟨_, rfl⟩
    rw [← eM2] at hM
    have g_y : M2 y = some (mO 8 [.ref b1, .ref b2, .ref b3, .ref b4, .ref b5, .int ni, .ref b6, .ref b7, .ref b8, .ref b9, .ref b10, .ref b11, .int nf0, .ref b12, .ref b13, .int bd, .int w, .int fa, .ref b14, .ref b15, .ref b16]) := by rw [eM2]; exact mUp_self _ _ _
    refine lv_iload_n hx hb dX10_says_13 rfl (lv_at hl 1 rfl) ?_
    exact m_iret hx hb hr hlocks hM hS (Nat.le_refl _) (Nat.le_refl _) dX10_says_14 (by refine ⟨rfl, ?_⟩; rw [eM2]; first | rw [if_pos (Int32.not_le.mp c_2)] | rw [if_neg (Int32.not_lt.mpr c_2)])
theorem in_X10_failed_X10 : ∀ w ∈ wsX100, w ∈ wsX10_failed := by decide +kernel
set_option maxHeartbeats 4000000 in
set_option maxRecDepth 100000 in
theorem c_X10_failed (l : Launch) (E : mEnv) (M : mMem) (sz : Nat) (y b1 b2 b3 b4 b5 b6 b7 b8 b9 b10 b11 b12 b13 b14 b15 b16 : Nat) (ni nf0 bd st fa : Int32) (w : Int32) (g_y : M y = some (mO 8 [.ref b1, .ref b2, .ref b3, .ref b4, .ref b5, .int ni, .ref b6, .ref b7, .ref b8, .ref b9, .ref b10, .ref b11, .int nf0, .ref b12, .ref b13, .int bd, .int st, .int fa, .ref b14, .ref b15, .ref b16]))  : Met l yX10_failed wsX10_failed ({ frames := 0, cells := 0, slots := 0, locals := 0 }) (mPre E M sz [.ref y, .int w]) (mQd E M sz (fun r u => r = FP.dconst0 ∧ u = mUp M y (mO 8 [.ref b1, .ref b2, .ref b3, .ref b4, .ref b5, .int ni, .ref b6, .ref b7, .ref b8, .ref b9, .ref b10, .ref b11, .int nf0, .ref b12, .ref b13, .int bd, .int st, .int w, .ref b14, .ref b15, .ref b16]))) (0) (0) (mA M sz) := by
  refine m_met [.ref y, .int w] (by decide) rfl (Nat.le_of_ble_eq_true rfl) ?_
  intro p e s m below meth c ls H eH hx hb hr hts hown hlocks hnm hml hsz hE hM hS hA hl
  have hl : lv_has ls 2 [(0, .ref y), (1, .int w)] := hl
  refine lv_aload_n hx hb dX10_failed_0 rfl (lv_at hl 0 rfl) ?_
  refine lv_iload_n hx hb dX10_failed_1 rfl (lv_at hl 1 rfl) ?_
  refine m_put (ci := 8) (v := .int w) (ty := .int) (C := RX10) (T := TX10) (N := 21) hx hb hts in_X10_failed_X10 tyX10 tyX10_ok nmX10 hown hE hM hS g_y rfl 17 (by decide) (hts (.fieldLink RX10 112 "CallWays2Model" "failure" "I") (by decide +kernel)) (fun _ h9 => h9) rfl (by decide +kernel) rfl rfl (Nat.le_of_ble_eq_true rfl) dX10_failed_2 (fun H locs hM hS => ?_)
  have hM : mOK E.1 (mA M sz) (mUp M y (mO 8 [.ref b1, .ref b2, .ref b3, .ref b4, .ref b5, .int ni, .ref b6, .ref b7, .ref b8, .ref b9, .ref b10, .ref b11, .int nf0, .ref b12, .ref b13, .int bd, .int st, .int w, .ref b14, .ref b15, .ref b16])) H := hM
  obtain ⟨M1, eM1⟩ : ∃ z, z = mUp M y (mO 8 [.ref b1, .ref b2, .ref b3, .ref b4, .ref b5, .int ni, .ref b6, .ref b7, .ref b8, .ref b9, .ref b10, .ref b11, .int nf0, .ref b12, .ref b13, .int bd, .int st, .int w, .ref b14, .ref b15, .ref b16]) := ⟨_, rfl⟩
  rw [← eM1] at hM
  have g_y : M1 y = some (mO 8 [.ref b1, .ref b2, .ref b3, .ref b4, .ref b5, .int ni, .ref b6, .ref b7, .ref b8, .ref b9, .ref b10, .ref b11, .int nf0, .ref b12, .ref b13, .int bd, .int st, .int w, .ref b14, .ref b15, .ref b16]) := by rw [eM1]; exact mUp_self _ _ _
  refine lv_dconst0 hx hb dX10_failed_5 ?_
  exact m_dret hx hb hr hlocks hM hS (Nat.le_refl _) (Nat.le_refl _) dX10_failed_6 (by refine ⟨rfl, ?_⟩; rw [eM1])
theorem in_X10_tone_X10 : ∀ w ∈ wsX100, w ∈ wsX10_tone := by decide +kernel
set_option maxHeartbeats 4000000 in
set_option maxRecDepth 100000 in
theorem c_X10_tone (l : Launch) (E : mEnv) (M : mMem) (sz : Nat) (y b1 b2 b3 b4 b5 b6 b7 b8 b9 b10 b11 b12 b13 b14 b15 b16 : Nat) (ni nf0 bd st fa : Int32) (PI : Nat → Int32) (ON : Nat → Int32) (j : Nat) (hj : j < 12) (ph : Int32) (g_y : M y = some (mO 8 [.ref b1, .ref b2, .ref b3, .ref b4, .ref b5, .int ni, .ref b6, .ref b7, .ref b8, .ref b9, .ref b10, .ref b11, .int nf0, .ref b12, .ref b13, .int bd, .int st, .int fa, .ref b14, .ref b15, .ref b16])) (g_b8 : M b8 = some (mI E 12 PI)) (g_b9 : M b9 = some (mZ E 12 ON))  : Met l yX10_tone wsX10_tone ({ frames := 0, cells := 0, slots := 0, locals := 0 }) (mPre E M sz [.ref y, .int (nI j), .int ph]) (mQd E M sz (fun r u => r = sTone (PI j) (ON j) ph ∧ u = M)) (0) (0) (mA M sz) := by
  refine m_met [.ref y, .int (nI j), .int ph] (by decide) rfl (Nat.le_of_ble_eq_true rfl) ?_
  intro p e s m below meth c ls H eH hx hb hr hts hown hlocks hnm hml hsz hE hM hS hA hl
  have hl : lv_has ls 3 [(0, .ref y), (1, .int (nI j)), (2, .int ph)] := hl
  refine lv_aload_n hx hb dX10_tone_0 rfl (lv_at hl 0 rfl) ?_
  refine m_get (ci := 8) (v := .ref b9) (C := RX10) (T := TX10) (N := 21) hx hb hts in_X10_tone_X10 hown hE hM g_y rfl 9 (by decide) (hts (.fieldLink RX10 35 "CallWays2Model" "isOn" "[Z") (by decide +kernel)) (fun _ h9 => h9) rfl dX10_tone_1 ?_
  refine lv_iload_n hx hb dX10_tone_4 rfl (lv_at hl 1 rfl) ?_
  refine m_zald hx hb hE hM g_b9 (vp_in_nI hj (by decide)) dX10_tone_5 ?_
  rw [show ON (nI j).toNatClampNeg = ON j from by rw [nI_clamp (by omega)]]
  refine lv_if_eq (tgt := 29) hx hb dX10_tone_6 (by decide) (fun c_6 => ?_) (fun c_6 => ?_)
  · skip
    refine lv_dconst0 hx hb dX10_tone_29 ?_
    exact m_dret hx hb hr hlocks hM hS (Nat.le_refl _) (Nat.le_refl _) dX10_tone_30 (by refine ⟨?_, rfl⟩; unfold sTone; first | exact (if_pos c_6).symm | exact (if_neg c_6).symm)
  · skip
    refine lv_iload_n hx hb dX10_tone_9 rfl (lv_at hl 2 rfl) ?_
    refine lv_aload_n hx hb dX10_tone_10 rfl (lv_at hl 0 rfl) ?_
    refine m_get (ci := 8) (v := .ref b8) (C := RX10) (T := TX10) (N := 21) hx hb hts in_X10_tone_X10 hown hE hM g_y rfl 8 (by decide) (hts (.fieldLink RX10 32 "CallWays2Model" "pitches" "[I") (by decide +kernel)) (fun _ h9 => h9) rfl dX10_tone_11 ?_
    refine lv_iload_n hx hb dX10_tone_14 rfl (lv_at hl 1 rfl) ?_
    refine m_iald hx hb hE hM g_b8 (vp_in_nI hj (by decide)) dX10_tone_15 ?_
    rw [show PI (nI j).toNatClampNeg = PI j from by rw [nI_clamp (by omega)]]
    refine lv_imul hx hb dX10_tone_16 ?_
    refine lv_sipush (v := 256) hx hb dX10_tone_17 (by decide) ?_
    refine lv_irem hx hb dX10_tone_20 (by decide) ?_
    refine lv_sipush (v := 128) hx hb dX10_tone_21 (by decide) ?_
    refine lv_isub hx hb dX10_tone_24 ?_
    refine lv_i2d hx hb dX10_tone_25 ?_
    refine lv_goto (tgt := 30) hx hb dX10_tone_26 (by decide) ?_
    exact m_dret hx hb hr hlocks hM hS (Nat.le_refl _) (Nat.le_refl _) dX10_tone_30 (by refine ⟨?_, rfl⟩; unfold sTone; first | exact (if_pos c_6).symm | exact (if_neg c_6).symm)
theorem in_X10_drum_X10 : ∀ w ∈ wsX100, w ∈ wsX10_drum := by decide +kernel
set_option maxHeartbeats 4000000 in
set_option maxRecDepth 100000 in
theorem c_X10_drum (l : Launch) (E : mEnv) (M : mMem) (sz : Nat) (y b1 b2 b3 b4 b5 b6 b7 b8 b9 b10 b11 b12 b13 b14 b15 b16 : Nat) (ni nf0 bd st : Int32) (KN : Nat → Int32) (LE : Nat → UInt64) (j : Nat) (hj : j < 12) (k1 : Int32) (le : UInt64) (hk1 : KN (4 * j + 1) = k1) (hle0 : LE j = le) (hle : dL le) (g_y : M y = some (mO 8 [.ref b1, .ref b2, .ref b3, .ref b4, .ref b5, .int ni, .ref b6, .ref b7, .ref b8, .ref b9, .ref b10, .ref b11, .int nf0, .ref b12, .ref b13, .int bd, .int st, .int 0, .ref b14, .ref b15, .ref b16])) (g_b7 : M b7 = some (mI E 48 KN)) (g_b11 : M b11 = some (mDb E 12 LE))  : Met l yX10_drum wsX10_drum ({ frames := 1, cells := 0, slots := 0, locals := 21 }) (mPre E M sz [.ref y, .int (nI j)]) (mQd E M sz (fun r u => r = (sDrum k1 le).2.1 ∧ u = mUp (mUp M y (mO 8 [.ref b1, .ref b2, .ref b3, .ref b4, .ref b5, .int ni, .ref b6, .ref b7, .ref b8, .ref b9, .ref b10, .ref b11, .int nf0, .ref b12, .ref b13, .int bd, .int st, .int ((sDrum k1 le).1), .ref b14, .ref b15, .ref b16])) b11 (mDb E 12 (vf_upd LE j (sDrum k1 le).2.2)))) (0) (0) (mA M sz) := by
  refine m_met [.ref y, .int (nI j)] (by decide) rfl (Nat.le_of_ble_eq_true rfl) ?_
  intro p e s m below meth c ls H eH hx hb hr hts hown hlocks hnm hml hsz hE hM hS hA hl
  have hl : lv_has ls 5 [(0, .ref y), (1, .int (nI j))] := hl
  have g0_y := g_y
  have g0_b11 := g_b11
  refine lv_aload_n hx hb dX10_drum_0 rfl (lv_at hl 0 rfl) ?_
  refine m_get (ci := 8) (v := .ref b7) (C := RX10) (T := TX10) (N := 21) hx hb hts in_X10_drum_X10 hown hE hM g_y rfl 7 (by decide) (hts (.fieldLink RX10 29 "CallWays2Model" "knobs" "[I") (by decide +kernel)) (fun _ h9 => h9) rfl dX10_drum_1 ?_
  refine lv_iconst (v := 4) hx hb dX10_drum_4 (by decide) ?_
  refine lv_iload_n hx hb dX10_drum_5 rfl (lv_at hl 1 rfl) ?_
  refine lv_imul hx hb dX10_drum_6 ?_
  refine lv_iconst (v := 1) hx hb dX10_drum_7 (by decide) ?_
  refine lv_iadd hx hb dX10_drum_8 ?_
  rw [show (4 : Int32) * nI j + 1 = nI (4 * j + 1) from k4 j 1]
  refine m_iald hx hb hE hM g_b7 (in_k4 hj (by decide)) dX10_drum_9 ?_
  rw [show KN (nI (4 * j + 1)).toNatClampNeg = k1 from by rw [nI_clamp (by omega), hk1]]
  refine lv_istore_n (lv' := [(2, .int k1), (0, .ref y), (1, .int (nI j))]) hx hb dX10_drum_10 rfl hl (by decide) rfl (fun ls hl => ?_)
  refine lv_iload_n hx hb dX10_drum_11 rfl (lv_at hl 0 rfl) ?_
  refine lv_if_ne (tgt := 22) hx hb dX10_drum_12 (by decide) (fun c_12 => ?_) (fun c_12 => ?_)
  · skip
    refine lv_aload_n hx hb dX10_drum_22 rfl (lv_at hl 1 rfl) ?_
    refine m_get (ci := 8) (v := .ref b11) (C := RX10) (T := TX10) (N := 21) hx hb hts in_X10_drum_X10 hown hE hM g_y rfl 11 (by decide) (hts (.fieldLink RX10 42 "CallWays2Model" "levels" "[D") (by decide +kernel)) (fun _ h9 => h9) rfl dX10_drum_23 ?_
    refine lv_iload_n hx hb dX10_drum_26 rfl (lv_at hl 2 rfl) ?_
    refine m_dald hx hb hE hM g_b11 (vp_in_nI hj (by decide)) dX10_drum_27 ?_
    rw [show LE (nI j).toNatClampNeg = le from by rw [nI_clamp (by omega), hle0]]
    refine lv_dstore_n (lv' := [(3, .double le), (2, .int k1), (0, .ref y), (1, .int (nI j))]) hx hb dX10_drum_28 rfl hl (by decide) rfl (fun ls hl => ?_)
    refine lv_aload_n hx hb dX10_drum_29 rfl (lv_at hl 2 rfl) ?_
    refine m_get (ci := 8) (v := .ref b11) (C := RX10) (T := TX10) (N := 21) hx hb hts in_X10_drum_X10 hown hE hM g_y rfl 11 (by decide) (hts (.fieldLink RX10 42 "CallWays2Model" "levels" "[D") (by decide +kernel)) (fun _ h9 => h9) rfl dX10_drum_30 ?_
    refine lv_iload_n hx hb dX10_drum_33 rfl (lv_at hl 3 rfl) ?_
    refine lv_dload_n hx hb dX10_drum_34 rfl (lv_at hl 0 rfl) ?_
    refine lv_sipush (v := 1000) hx hb dX10_drum_35 (by decide) ?_
    refine lv_iload_n hx hb dX10_drum_38 rfl (lv_at hl 1 rfl) ?_
    refine lv_idiv hx hb dX10_drum_39 c_12 ?_
    refine lv_i2d hx hb dX10_drum_40 ?_
    refine lv_dmul hx hb dX10_drum_41 (nn_mul (hle.b.fin (by decide)) (fin_i2d _)) ?_
    refine lv_ldc2d hx hb hown (hts (.constantDouble RX10 119 (4652007308841189376)) (by decide +kernel)) dX10_drum_42 ?_
    refine lv_ddiv hx hb dX10_drum_45 (nn_div ((dB_mul hle.b (dB_i2d _) (by decide) (by decide)).fin (by decide)) fin_1000 nz_1000) ?_
    refine m_dast hx hb hE hM hS g_b11 (vp_in_nI hj (by decide)) dX10_drum_46 (fun H locs hM hS => ?_)
    have hM : mOK E.1 (mA M sz) (mUp M b11 (mDb E 12 (vf_upd LE (nI j).toNatClampNeg (FP.ddiv (FP.dmul le (FP.i2d (1000 / k1))) 4652007308841189376)))) H := hM
    obtain ⟨M1, eM1⟩ : ∃ z, z = mUp M b11 (mDb E 12 (vf_upd LE (nI j).toNatClampNeg (FP.ddiv (FP.dmul le (FP.i2d (1000 / k1))) 4652007308841189376))) := ⟨_, rfl⟩
    rw [← eM1] at hM
    have g_y_ : M1 y = some (mO 8 [.ref b1, .ref b2, .ref b3, .ref b4, .ref b5, .int ni, .ref b6, .ref b7, .ref b8, .ref b9, .ref b10, .ref b11, .int nf0, .ref b12, .ref b13, .int bd, .int st, .int 0, .ref b14, .ref b15, .ref b16]) := by rw [eM1]; exact mUp_at (m_ne g_y g_b11 (by simp)) g_y
    have g_b7_ : M1 b7 = some (mI E 48 KN) := by rw [eM1]; exact mUp_at (m_ne g_b7 g_b11 (by simp)) g_b7
    have g_y := g_y_
    have g_b7 := g_b7_
    have g_b11 : M1 b11 = some (mDb E 12 (vf_upd LE (nI j).toNatClampNeg (FP.ddiv (FP.dmul le (FP.i2d (1000 / k1))) 4652007308841189376))) := by rw [eM1]; exact mUp_self _ _ _
    refine lv_dload_n hx hb dX10_drum_47 rfl (lv_at hl 0 rfl) ?_
    exact m_dret hx hb hr hlocks hM hS (Nat.le_refl _) (Nat.le_refl _) dX10_drum_48 (by refine ⟨(by unfold sDrum; rw [if_neg c_12]), ?_⟩; rw [eM1]; unfold sDrum; rw [if_neg c_12, nI_clamp (by omega)]; show _ = mUp (mUp M y _) b11 _; rw [mUp_id g0_y])
  · skip
    refine lv_aload_n hx hb dX10_drum_15 rfl (lv_at hl 1 rfl) ?_
    refine lv_bipush (v := -4) hx hb dX10_drum_16 (by decide) ?_
    refine m_calld (va_runV (As := [.int (-4)]) (rest := []) ⟨hx, hb, hml, hown, hts⟩ (c_X10_failed l E M H.size y b1 b2 b3 b4 b5 b6 b7 b8 b9 b10 b11 b12 b13 b14 b15 b16 ni nf0 bd st 0 (-4) g_y) (cwV 1 hts gX10_drum_X10_failed rfl rfl rfl (by decide +kernel) ⟨Nat.le_of_ble_eq_true rfl, Nat.le_of_ble_eq_true rfl⟩) (m_preV hE hM g_y rfl) rfl rfl hl.1 rfl (lv_room (Nat.le_of_ble_eq_true rfl)) dX10_drum_18 ⟨Nat.le_of_ble_eq_true rfl, Nat.le_of_ble_eq_true rfl⟩) hM hS hA (fun r9 M2 H locs hw hM hS => ?_)
    obtain ⟨e_r9, eM2⟩ := hw
    subst e_r9
    have g_b7_ : M2 b7 = some (mI E 48 KN) := by rw [eM2]; exact mUp_at (m_ne g_b7 g_y (by simp)) g_b7
    have g_b11_ : M2 b11 = some (mDb E 12 LE) := by rw [eM2]; exact mUp_at (m_ne g_b11 g_y (by simp)) g_b11
    have g_b7 := g_b7_
    have g_b11 := g_b11_
    have g_y : M2 y = some (mO 8 [.ref b1, .ref b2, .ref b3, .ref b4, .ref b5, .int ni, .ref b6, .ref b7, .ref b8, .ref b9, .ref b10, .ref b11, .int nf0, .ref b12, .ref b13, .int bd, .int st, .int (-4), .ref b14, .ref b15, .ref b16]) := by rw [eM2]; exact mUp_self _ _ _
    exact m_dret hx hb hr hlocks hM hS (Nat.le_refl _) (Nat.le_refl _) dX10_drum_21 (by subst c_12; refine ⟨rfl, ?_⟩; rw [eM2]; show _ = mUp (mUp M y _) b11 (mDb E 12 (vf_upd LE j le)); rw [vf_id hle0]; exact (mUp_id (mUp_at (m_ne g0_b11 g0_y (by simp)) g0_b11)).symm)
