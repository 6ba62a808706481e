theorem dneg_hi {x : UInt64} (h : 2 ^ 63 ≤ x.toNat) : (FP.dneg x).toNat = x.toNat - 2 ^ 63 := by
  have ha := x.toNat_lt
  have hx : (FP.dneg x).toNat = x.toNat ^^^ 2 ^ 63 := by
    unfold FP.dneg
    rw [UInt64.toNat_xor]
    rfl
  rw [hx]
  exact (FP.xor_top (a := x.toNat) (k := 63) (by omega)).2 h
theorem ge_cases {x : UInt64} (hx0 : FP.Core.DFin x) (h : 0 ≤ Op.cmpValue (FP.dcmp x FP.dconst0) CmpOp.g) : x.toNat < 2 ^ 63 ∨ x.toNat % 2 ^ 63 = 0 := by
  by_cases h0 : Op.cmpValue (FP.dcmp x FP.dconst0) CmpOp.l = 0
  · rw [cmpv_eq] at h0
    exact Or.inr ((FP.Core.zero_bits2 x).mp (FP.Core.zero_iff.mp h0))
  · have := isneg_gt hx0 (by intro q; exact absurd h (Int32.not_le.mpr q)) h0
    exact Or.inl (by omega)
theorem lt_case {x : UInt64} (hx0 : FP.Core.DFin x) (h : ¬ 0 ≤ Op.cmpValue (FP.dcmp x FP.dconst0) CmpOp.g) : 2 ^ 63 ≤ x.toNat := isneg_lt hx0 (Int32.not_le.mp h)
theorem zero_cmp {x : UInt64} (h : x.toNat % 2 ^ 63 = 0) : FP.dcmp x FP.dconst0 = some .eq := FP.Core.zero_iff.mpr ((FP.Core.zero_bits2 x).mpr h)
theorem lor_hi {x : UInt64} (h : 2 ^ 63 ≤ x.toNat) : (-9223372036854775808 : Int64) ||| lN (x.toNat % 2 ^ 63) = x.toInt64 := by
  have hx := x.toNat_lt
  apply Int64.toBitVec_inj.mp
  apply BitVec.eq_of_toNat_eq
  rw [Int64.toBitVec_or, BitVec.toNat_or]
  show (-9223372036854775808 : Int64).toBitVec.toNat ||| (Int64.ofNat (x.toNat % 2 ^ 63)).toBitVec.toNat = x.toNat
  rw [Int64.toBitVec_ofNat', BitVec.toNat_ofNat, show (-9223372036854775808 : Int64).toBitVec.toNat = 2 ^ 63 * 1 from rfl, Nat.mod_eq_of_lt (show x.toNat % 2 ^ 63 < 2 ^ 64 by omega), ← Nat.two_pow_add_eq_or_of_lt (by omega)]
  omega
theorem lor_lo {x : UInt64} (h : ¬ 2 ^ 63 ≤ x.toNat) : (0 : Int64) ||| lN (x.toNat % 2 ^ 63) = x.toInt64 := by
  have hx := x.toNat_lt
  apply Int64.toBitVec_inj.mp
  apply BitVec.eq_of_toNat_eq
  rw [Int64.toBitVec_or, BitVec.toNat_or]
  show (0 : Int64).toBitVec.toNat ||| (Int64.ofNat (x.toNat % 2 ^ 63)).toBitVec.toNat = x.toNat
  rw [Int64.toBitVec_ofNat', BitVec.toNat_ofNat, show (0 : Int64).toBitVec.toNat = 0 from rfl, Nat.zero_or]
  omega
theorem ior_hi {f : UInt32} (h : 2 ^ 31 ≤ f.toNat) : (-2147483648 : Int32) ||| (lN (f.toNat % 2 ^ 31)).toInt32 = f.toInt32 := by
  have hx := f.toNat_lt
  rw [lN_i]
  apply Int32.toBitVec_inj.mp
  apply BitVec.eq_of_toNat_eq
  rw [Int32.toBitVec_or, BitVec.toNat_or]
  show (-2147483648 : Int32).toBitVec.toNat ||| (nI (f.toNat % 2 ^ 31)).toBitVec.toNat = f.toNat
  rw [pk_tn (by omega), show (-2147483648 : Int32).toBitVec.toNat = 2 ^ 31 * 1 from rfl, ← Nat.two_pow_add_eq_or_of_lt (by omega)]
  omega
theorem ior_lo {f : UInt32} (h : ¬ 2 ^ 31 ≤ f.toNat) : (0 : Int32) ||| (lN (f.toNat % 2 ^ 31)).toInt32 = f.toInt32 := by
  have hx := f.toNat_lt
  rw [lN_i]
  apply Int32.toBitVec_inj.mp
  apply BitVec.eq_of_toNat_eq
  rw [Int32.toBitVec_or, BitVec.toNat_or]
  show (0 : Int32).toBitVec.toNat ||| (nI (f.toNat % 2 ^ 31)).toBitVec.toNat = f.toNat
  rw [pk_tn (by omega), show (0 : Int32).toBitVec.toNat = 0 from rfl, Nat.zero_or]
  omega
/-- magnitude of a finite double whose sign is clear, or of a zero -/
theorem c_X1_magD (l : Launch) (E : mEnv) (M : mMem) (sz : Nat) (y : UInt64) (hf : y.toNat % 2 ^ 63 < 9218868437227405312) (hs : y.toNat < 2 ^ 63 ∨ y.toNat % 2 ^ 63 = 0) : Met l yX1_magnitude wsX1_magnitude ({ frames := 0, cells := 0, slots := 0, locals := 0 }) (mPre E M sz [.double y, .int 1023, .int 52]) (mQl E M sz (fun r u => r = lN (y.toNat % 2 ^ 63) ∧ u = M)) (0) (0) (mA M sz) := by
  by_cases h0 : y.toNat % 2 ^ 63 = 0
  · rw [h0]
    exact c_X1_mag0 l E M sz y 1023 52 (zero_cmp h0)
  · have hn : y.toNat < 2 ^ 63 := hs.resolve_right h0
    have hm : y.toNat % 2 ^ 63 = y.toNat := Nat.mod_eq_of_lt hn
    rw [hm] at hf h0 ⊢
    generalize hnn : y.toNat = n at *
    by_cases hlt : n < 2 ^ 52
    · have hU : dU y (n * 2 ^ (0 + 0)) := by
        have := dU_bits (x := y) (by omega)
        unfold FP.Core.unitsOf at this
        rw [hnn, FP.Core.tails_b64, if_pos hlt] at this
        simpa using this
      have := c_X1_mag l E M sz y 1023 52 0 0 n (by omega) (by omega) (Or.inl rfl) (by decide) (by decide) (by decide) (by decide) (by decide) hU hPd_52 (hsh_52 (by decide))
      rw [Nat.zero_mul, Nat.zero_add] at this
      exact this
    · have hU : dU y ((2 ^ 52 + n % 2 ^ 52) * 2 ^ (n / 2 ^ 52 - 1 + 0)) := by
        have := dU_bits (x := y) (by omega)
        unfold FP.Core.unitsOf at this
        rw [hnn, FP.Core.tails_b64, if_neg hlt] at this
        exact this
      have := c_X1_mag l E M sz y 1023 52 0 (n / 2 ^ 52 - 1) (2 ^ 52 + n % 2 ^ 52) (by omega) (by omega) (Or.inr (by omega)) (by omega) (by decide) (by decide) (by decide) (by decide) hU hPd_52 (hsh_52 (by omega))
      rw [show (n / 2 ^ 52 - 1) * 2 ^ 52 + (2 ^ 52 + n % 2 ^ 52) = n by omega] at this
      exact this
set_option maxHeartbeats 4000000 in
set_option maxRecDepth 100000 in
theorem c_X1_ofDouble (l : Launch) (E : mEnv) (M : mMem) (sz : Nat) (x : UInt64) (hx0 : FP.Core.DFin x)   : Met l yX1_ofDouble wsX1_ofDouble ({ frames := 1, cells := 0, slots := 0, locals := 26 }) (mPre E M sz [.double x]) (mQl E M sz (fun r u => r = x.toInt64 ∧ u = M)) (0) (0) (mA M sz) := by
  refine m_met [.double x] (by decide) rfl (Nat.le_of_ble_eq_true rfl) ?_
  intro p e s m below meth c ls H eH hx hb hr hts hown hlocks hnm hml hsz hE hM hS hA hl
  have hl : lv_has ls 2 [(0, .double x)] := hl
  have hfb := (FP.Core.fin_bits x).mp hx0
  have hlt := x.toNat_lt
  refine lv_dload_n hx hb dX1_ofDouble_0 rfl (lv_at hl 0 rfl) ?_
  refine m_calli (va_runS (As := [.double x]) (rest := []) ⟨hx, hb, hml, hown, hts⟩ (c_X1_isNegative l E M H.size x hx0) (va_cwS 1 hts gX1_ofDouble_X1_isNegative rfl rfl rfl (by decide +kernel) ⟨Nat.le_of_ble_eq_true rfl, Nat.le_of_ble_eq_true rfl⟩) (m_preS hE hM) rfl rfl hl.1 rfl (lv_room (Nat.le_of_ble_eq_true rfl)) dX1_ofDouble_1 ⟨Nat.le_of_ble_eq_true rfl, Nat.le_of_ble_eq_true rfl⟩) hM hS hA (fun r1 u H locs hw hM hS => ?_)
  obtain ⟨e_r1, eu⟩ := hw
  rw [eu] at hM
  subst e_r1
  refine lv_if_eq (tgt := 13) hx hb dX1_ofDouble_4 (by decide) (fun c_4 => ?_) (fun c_4 => ?_)
  · skip
    rw [bI_eq] at c_4
    refine lv_lconst (v := 0) hx hb dX1_ofDouble_13 (by decide) ?_
    refine lv_dload_n hx hb dX1_ofDouble_14 rfl (lv_at hl 0 rfl) ?_
    refine lv_dconst0 hx hb dX1_ofDouble_15 ?_
    refine lv_dcmp hx hb dX1_ofDouble_16 ?_
    refine lv_if_ge (tgt := 25) hx hb dX1_ofDouble_17 (by decide) (fun c_17 => ?_) (fun c_17 => ?_)
    · skip
      refine lv_dload_n hx hb dX1_ofDouble_25 rfl (lv_at hl 0 rfl) ?_
      refine lv_sipush (v := 1023) hx hb dX1_ofDouble_26 (by decide) ?_
      refine lv_bipush (v := 52) hx hb dX1_ofDouble_29 (by decide) ?_
      refine m_calll (va_runS (As := [.double x, .int 1023, .int 52]) (rest := [.long 0]) ⟨hx, hb, hml, hown, hts⟩ (c_X1_magD l E M H.size x hfb (ge_cases hx0 c_17)) (va_cwS 3 hts gX1_ofDouble_X1_magnitude rfl rfl rfl (by decide +kernel) ⟨Nat.le_of_ble_eq_true rfl, Nat.le_of_ble_eq_true rfl⟩) (m_preS hE hM) rfl rfl hl.1 rfl (lv_room (Nat.le_of_ble_eq_true rfl)) dX1_ofDouble_31 ⟨Nat.le_of_ble_eq_true rfl, Nat.le_of_ble_eq_true rfl⟩) hM hS hA (fun r2 u H locs hw hM hS => ?_)
      obtain ⟨e_r2, eu⟩ := hw
      rw [eu] at hM
      subst e_r2
      refine lv_lor hx hb dX1_ofDouble_34 ?_
      exact m_lret hx hb hr hlocks hM hS (Nat.le_refl _) (Nat.le_refl _) dX1_ofDouble_35 (by refine ⟨?_, rfl⟩; first | exact lor_lo c_4 | exact lor_hi c_4 | (have hn := lt_case hx0 c_17; rw [show (FP.dneg x).toNat % 2 ^ 63 = x.toNat % 2 ^ 63 by rw [dneg_hi hn]; omega]; first | exact lor_lo c_4 | exact lor_hi c_4))
    · skip
      refine lv_dload_n hx hb dX1_ofDouble_20 rfl (lv_at hl 0 rfl) ?_
      refine lv_dneg hx hb dX1_ofDouble_21 ?_
      refine lv_goto (tgt := 26) hx hb dX1_ofDouble_22 (by decide) ?_
      refine lv_sipush (v := 1023) hx hb dX1_ofDouble_26 (by decide) ?_
      refine lv_bipush (v := 52) hx hb dX1_ofDouble_29 (by decide) ?_
      refine m_calll (va_runS (As := [.double (FP.dneg x), .int 1023, .int 52]) (rest := [.long 0]) ⟨hx, hb, hml, hown, hts⟩ (c_X1_magD l E M H.size (FP.dneg x) (by rw [dneg_hi (lt_case hx0 c_17)]; omega) (Or.inl (by rw [dneg_hi (lt_case hx0 c_17)]; omega))) (va_cwS 3 hts gX1_ofDouble_X1_magnitude rfl rfl rfl (by decide +kernel) ⟨Nat.le_of_ble_eq_true rfl, Nat.le_of_ble_eq_true rfl⟩) (m_preS hE hM) rfl rfl hl.1 rfl (lv_room (Nat.le_of_ble_eq_true rfl)) dX1_ofDouble_31 ⟨Nat.le_of_ble_eq_true rfl, Nat.le_of_ble_eq_true rfl⟩) hM hS hA (fun r2 u H locs hw hM hS => ?_)
      obtain ⟨e_r2, eu⟩ := hw
      rw [eu] at hM
      subst e_r2
      refine lv_lor hx hb dX1_ofDouble_34 ?_
      exact m_lret hx hb hr hlocks hM hS (Nat.le_refl _) (Nat.le_refl _) dX1_ofDouble_35 (by refine ⟨?_, rfl⟩; first | exact lor_lo c_4 | exact lor_hi c_4 | (have hn := lt_case hx0 c_17; rw [show (FP.dneg x).toNat % 2 ^ 63 = x.toNat % 2 ^ 63 by rw [dneg_hi hn]; omega]; first | exact lor_lo c_4 | exact lor_hi c_4))
  · skip
    rw [bI_ne] at c_4
    refine lv_ldc2 hx hb hown (hts (.constantLong RX1 15 (-9223372036854775808)) (by decide +kernel)) dX1_ofDouble_7 ?_
    refine lv_goto (tgt := 14) hx hb dX1_ofDouble_10 (by decide) ?_
    refine lv_dload_n hx hb dX1_ofDouble_14 rfl (lv_at hl 0 rfl) ?_
    refine lv_dconst0 hx hb dX1_ofDouble_15 ?_
    refine lv_dcmp hx hb dX1_ofDouble_16 ?_
    refine lv_if_ge (tgt := 25) hx hb dX1_ofDouble_17 (by decide) (fun c_17 => ?_) (fun c_17 => ?_)
    · skip
      refine lv_dload_n hx hb dX1_ofDouble_25 rfl (lv_at hl 0 rfl) ?_
      refine lv_sipush (v := 1023) hx hb dX1_ofDouble_26 (by decide) ?_
      refine lv_bipush (v := 52) hx hb dX1_ofDouble_29 (by decide) ?_
      refine m_calll (va_runS (As := [.double x, .int 1023, .int 52]) (rest := [.long (-9223372036854775808)]) ⟨hx, hb, hml, hown, hts⟩ (c_X1_magD l E M H.size x hfb (ge_cases hx0 c_17)) (va_cwS 3 hts gX1_ofDouble_X1_magnitude rfl rfl rfl (by decide +kernel) ⟨Nat.le_of_ble_eq_true rfl, Nat.le_of_ble_eq_true rfl⟩) (m_preS hE hM) rfl rfl hl.1 rfl (lv_room (Nat.le_of_ble_eq_true rfl)) dX1_ofDouble_31 ⟨Nat.le_of_ble_eq_true rfl, Nat.le_of_ble_eq_true rfl⟩) hM hS hA (fun r2 u H locs hw hM hS => ?_)
      obtain ⟨e_r2, eu⟩ := hw
      rw [eu] at hM
      subst e_r2
      refine lv_lor hx hb dX1_ofDouble_34 ?_
      exact m_lret hx hb hr hlocks hM hS (Nat.le_refl _) (Nat.le_refl _) dX1_ofDouble_35 (by refine ⟨?_, rfl⟩; first | exact lor_lo c_4 | exact lor_hi c_4 | (have hn := lt_case hx0 c_17; rw [show (FP.dneg x).toNat % 2 ^ 63 = x.toNat % 2 ^ 63 by rw [dneg_hi hn]; omega]; first | exact lor_lo c_4 | exact lor_hi c_4))
    · skip
      refine lv_dload_n hx hb dX1_ofDouble_20 rfl (lv_at hl 0 rfl) ?_
      refine lv_dneg hx hb dX1_ofDouble_21 ?_
      refine lv_goto (tgt := 26) hx hb dX1_ofDouble_22 (by decide) ?_
      refine lv_sipush (v := 1023) hx hb dX1_ofDouble_26 (by decide) ?_
      refine lv_bipush (v := 52) hx hb dX1_ofDouble_29 (by decide) ?_
      refine m_calll (va_runS (As := [.double (FP.dneg x), .int 1023, .int 52]) (rest := [.long (-9223372036854775808)]) ⟨hx, hb, hml, hown, hts⟩ (c_X1_magD l E M H.size (FP.dneg x) (by rw [dneg_hi (lt_case hx0 c_17)]; omega) (Or.inl (by rw [dneg_hi (lt_case hx0 c_17)]; omega))) (va_cwS 3 hts gX1_ofDouble_X1_magnitude rfl rfl rfl (by decide +kernel) ⟨Nat.le_of_ble_eq_true rfl, Nat.le_of_ble_eq_true rfl⟩) (m_preS hE hM) rfl rfl hl.1 rfl (lv_room (Nat.le_of_ble_eq_true rfl)) dX1_ofDouble_31 ⟨Nat.le_of_ble_eq_true rfl, Nat.le_of_ble_eq_true rfl⟩) hM hS hA (fun r2 u H locs hw hM hS => ?_)
      obtain ⟨e_r2, eu⟩ := hw
      rw [eu] at hM
      subst e_r2
      refine lv_lor hx hb dX1_ofDouble_34 ?_
      exact m_lret hx hb hr hlocks hM hS (Nat.le_refl _) (Nat.le_refl _) dX1_ofDouble_35 (by refine ⟨?_, rfl⟩; first | exact lor_lo c_4 | exact lor_hi c_4 | (have hn := lt_case hx0 c_17; rw [show (FP.dneg x).toNat % 2 ^ 63 = x.toNat % 2 ^ 63 by rw [dneg_hi hn]; omega]; first | exact lor_lo c_4 | exact lor_hi c_4))
/-- a finite float, as a double: its units -/
theorem f2d_val {f : UInt32} (hf : FP.Core.FFin f) : ∃ (c a : Nat), FP.Core.val64 (FP.f2d f) = FP.Core.roundRatio FP.Core.b64 (decide (2 ^ 31 ≤ f.toNat)) c 1 ((a : Int) - 149) ∧ c * 2 ^ a = FP.Core.unitsOf FP.Core.b32 (f.toNat % 2 ^ 31) := by
  have hfb := (FP.Core.fin_bits32 f).mp hf
  obtain ⟨c, q, h1, h2⟩ := FP.Core.decode_fin (f := FP.Core.b32) (n := f.toNat) (by rw [FP.Core.mag_toNat32, FP.Core.infBits_b32]; exact hfb)
  rw [FP.Core.mag_toNat32] at h2
  have hs : FP.Core.fieldS FP.Core.b32 f.toNat = decide (2 ^ 31 ≤ f.toNat) := by
    rw [FP.Core.fieldS_mag FP.Core.b32 (FP.Core.lt_full32 f), FP.Core.half_b32]
  rw [hs] at h1
  have hfit : FP.Core.fits FP.Core.b32 (.fin (decide (2 ^ 31 ≤ f.toNat)) c q) := h1 ▸ FP.Core.val32_fits f
  have hq := hfit.2.1
  rw [FP.Core.qmin_b32] at hq
  refine ⟨c, (q + 149).toNat, ?_, ?_⟩
  · rw [FP.f2d_core hf.notNaN, FP.Core.val64_f2d, show FP.Core.val32 f = _ from h1, show (((q + 149).toNat : Nat) : Int) - 149 = q by omega]
    rfl
  · rw [← h2]
    show _ = c * 2 ^ (q - FP.Core.b32.qmin).toNat
    rw [FP.Core.qmin_b32, show (q - (-149)).toNat = (q + 149).toNat by omega]
theorem dU_f2d_lo {f : UInt32} (hf : FP.Core.FFin f) (hs : ¬ 2 ^ 31 ≤ f.toNat) {t k : Nat} (ht : t < 2 ^ 53) (hk : k + 925 ≤ 2045) (hu : FP.Core.unitsOf FP.Core.b32 (f.toNat % 2 ^ 31) = t * 2 ^ k) : dU (FP.f2d f) (t * 2 ^ (k + 925)) := by
  obtain ⟨c, a, h1, h2⟩ := f2d_val hf
  refine dU_mk ht hk ?_
  rw [h1, decide_eq_false hs]
  refine FP.Core.roundRatio_congr (by decide) (by decide) ?_
  rw [Nat.mul_one, Nat.mul_one]
  exact pow_cross (h2.trans hu) (by omega)
theorem dU_f2d_hi {f : UInt32} (hf : FP.Core.FFin f) (hs : 2 ^ 31 ≤ f.toNat) {t k : Nat} (ht : t < 2 ^ 53) (hk : k + 925 ≤ 2045) (hu : FP.Core.unitsOf FP.Core.b32 (f.toNat % 2 ^ 31) = t * 2 ^ k) : dU (FP.dneg (FP.f2d f)) (t * 2 ^ (k + 925)) := by
  obtain ⟨c, a, h1, h2⟩ := f2d_val hf
  refine dU_mk ht hk ?_
  rw [FP.val64_dneg, h1, decide_eq_true hs, FP.Core.negate_roundRatio]
  show FP.Core.roundRatio FP.Core.b64 false c 1 _ = _
  refine FP.Core.roundRatio_congr (by decide) (by decide) ?_
  rw [Nat.mul_one, Nat.mul_one]
  exact pow_cross (h2.trans hu) (by omega)
theorem f2d_sign {f : UInt32} (hf : FP.Core.FFin f) : 2 ^ 63 ≤ (FP.f2d f).toNat ↔ 2 ^ 31 ≤ f.toNat := by
  obtain ⟨c, a, h1, h2⟩ := f2d_val hf
  have hs := FP.Core.sgn_roundRatio FP.Core.b64 (decide (2 ^ 31 ≤ f.toNat)) c 1 ((a : Int) - 149)
  have hn : FP.Core.val64 (FP.f2d f) ≠ .nan := by rw [h1]; exact FP.Core.roundRatio_ne_nan _ _ _ _ _
  have h3 := FP.Core.sgn_bits hn
  rw [h1, hs] at h3
  constructor
  · intro h
    rw [decide_eq_true h] at h3
    exact of_decide_eq_true h3
  · intro h
    rw [decide_eq_true h] at h3
    exact of_decide_eq_true h3.symm
theorem f2d_fin' {f : UInt32} (hf : FP.Core.FFin f) : FP.Core.DFin (FP.f2d f) := by rw [FP.f2d_core hf.notNaN]; exact FP.Core.f2d_fin hf
theorem f2d_zero {f : UInt32} (hf : FP.Core.FFin f) (h : f.toNat % 2 ^ 31 = 0) : FP.dcmp (FP.f2d f) FP.dconst0 = some .eq := by
  have hl := f.toNat_lt
  have : f = 0 ∨ f = 2147483648 := by
    rcases (show f.toNat = 0 ∨ f.toNat = 2147483648 by omega) with h1 | h1
    · exact Or.inl (UInt32.toNat_inj.mp h1)
    · exact Or.inr (UInt32.toNat_inj.mp h1)
  rcases this with rfl | rfl <;> decide +kernel
/-- magnitude of a finite float, its sign taken away, as a double -/
theorem c_X1_magF (l : Launch) (E : mEnv) (M : mMem) (sz : Nat) (f : UInt32) (hf : FP.Core.FFin f) (y : UInt64) (hy : (y = FP.f2d f ∧ (¬ 2 ^ 31 ≤ f.toNat ∨ f.toNat % 2 ^ 31 = 0)) ∨ (y = FP.dneg (FP.f2d f) ∧ 2 ^ 31 ≤ f.toNat ∧ ¬ f.toNat % 2 ^ 31 = 0)) : Met l yX1_magnitude wsX1_magnitude ({ frames := 0, cells := 0, slots := 0, locals := 0 }) (mPre E M sz [.double y, .int 127, .int 23]) (mQl E M sz (fun r u => r = lN (f.toNat % 2 ^ 31) ∧ u = M)) (0) (0) (mA M sz) := by
  have hfb := (FP.Core.fin_bits32 f).mp hf
  by_cases h0 : f.toNat % 2 ^ 31 = 0
  · rw [h0]
    rcases hy with ⟨rfl, _⟩ | ⟨_, _, h⟩
    · exact c_X1_mag0 l E M sz _ 127 23 (f2d_zero hf h0)
    · exact absurd h0 h
  · have hU : ∀ {t k : Nat}, t < 2 ^ 53 → k + 925 ≤ 2045 → FP.Core.unitsOf FP.Core.b32 (f.toNat % 2 ^ 31) = t * 2 ^ k → dU y (t * 2 ^ (k + 925)) := by
      intro t k ht hk hu
      rcases hy with ⟨rfl, h⟩ | ⟨rfl, h, _⟩
      · exact dU_f2d_lo hf (h.resolve_right h0) ht hk hu
      · exact dU_f2d_hi hf h ht hk hu
    generalize hnn : f.toNat % 2 ^ 31 = n at *
    by_cases hlt : n < 2 ^ 23
    · have hU := hU (t := n) (k := 0) (by omega) (by decide) (by unfold FP.Core.unitsOf; rw [FP.Core.tails_b32, if_pos hlt]; simp)
      have := c_X1_mag l E M sz y 127 23 925 0 n (by omega) (by omega) (Or.inl rfl) (by decide) (by decide) (by decide) (by decide) (by decide) hU hPd_23 (hsh_23 (by decide))
      rw [Nat.zero_mul, Nat.zero_add] at this
      exact this
    · have hU := hU (t := 2 ^ 23 + n % 2 ^ 23) (k := n / 2 ^ 23 - 1) (by omega) (by omega) (by unfold FP.Core.unitsOf; rw [FP.Core.tails_b32, if_neg hlt])
      have := c_X1_mag l E M sz y 127 23 925 (n / 2 ^ 23 - 1) (2 ^ 23 + n % 2 ^ 23) (by omega) (by omega) (Or.inr (by omega)) (by omega) (by decide) (by decide) (by decide) (by decide) hU hPd_23 (hsh_23 (by omega))
      rw [show (n / 2 ^ 23 - 1) * 2 ^ 23 + (2 ^ 23 + n % 2 ^ 23) = n by omega] at this
      exact this
theorem fge {f : UInt32} (hf : FP.Core.FFin f) (h : 0 ≤ Op.cmpValue (FP.dcmp (FP.f2d f) FP.dconst0) CmpOp.g) : ¬ 2 ^ 31 ≤ f.toNat ∨ f.toNat % 2 ^ 31 = 0 := by
  by_cases hs : 2 ^ 31 ≤ f.toNat
  · right
    rcases ge_cases (f2d_fin' hf) h with h1 | h1
    · have := (f2d_sign hf).mpr hs
      omega
    · have h2 := (FP.Core.zero_bits2 _).mpr h1
      have h4 := h2.zval
      obtain ⟨c, a, k1, k2⟩ := f2d_val hf
      have hz : FP.Core.dcmp (FP.f2d f) 0 = some .eq := FP.Core.zero_iff.mpr h2
      have hd := FP.Core.d2f_f2d hf.ne_nan
      rw [← FP.f2d_core hf.notNaN] at hd
      rcases FP.Core.zero_bits hz with e | e
      · rw [e] at hd
        rw [← hd]
        decide +kernel
      · rw [e] at hd
        rw [← hd]
        decide +kernel
  · exact Or.inl hs
theorem flt {f : UInt32} (hf : FP.Core.FFin f) (h : ¬ 0 ≤ Op.cmpValue (FP.dcmp (FP.f2d f) FP.dconst0) CmpOp.g) : 2 ^ 31 ≤ f.toNat ∧ ¬ f.toNat % 2 ^ 31 = 0 := by
  refine ⟨(f2d_sign hf).mp (lt_case (f2d_fin' hf) h), fun h0 => ?_⟩
  rw [f2d_zero hf h0] at h
  exact h (by decide)
set_option maxHeartbeats 4000000 in
set_option maxRecDepth 100000 in
theorem c_X1_ofFloat (l : Launch) (E : mEnv) (M : mMem) (sz : Nat) (f : UInt32) (hf : FP.Core.FFin f)   : Met l yX1_ofFloat wsX1_ofFloat ({ frames := 1, cells := 0, slots := 0, locals := 26 }) (mPre E M sz [.double (FP.f2d f)]) (mQi E M sz (fun r u => r = f.toInt32 ∧ u = M)) (0) (0) (mA M sz) := by
  refine m_met [.double (FP.f2d f)] (by decide) rfl (Nat.le_of_ble_eq_true rfl) ?_
  intro p e s m below meth c ls H eH hx hb hr hts hown hlocks hnm hml hsz hE hM hS hA hl
  have hl : lv_has ls 2 [(0, .double (FP.f2d f))] := hl
  refine lv_dload_n hx hb dX1_ofFloat_0 rfl (lv_at hl 0 rfl) ?_
  refine m_calli (va_runS (As := [.double (FP.f2d f)]) (rest := []) ⟨hx, hb, hml, hown, hts⟩ (c_X1_isNegative l E M H.size (FP.f2d f) (f2d_fin' hf)) (va_cwS 1 hts gX1_ofFloat_X1_isNegative rfl rfl rfl (by decide +kernel) ⟨Nat.le_of_ble_eq_true rfl, Nat.le_of_ble_eq_true rfl⟩) (m_preS hE hM) rfl rfl hl.1 rfl (lv_room (Nat.le_of_ble_eq_true rfl)) dX1_ofFloat_1 ⟨Nat.le_of_ble_eq_true rfl, Nat.le_of_ble_eq_true rfl⟩) hM hS hA (fun r1 u H locs hw hM hS => ?_)
  obtain ⟨e_r1, eu⟩ := hw
  rw [eu] at hM
  subst e_r1
  refine lv_if_eq (tgt := 12) hx hb dX1_ofFloat_4 (by decide) (fun c_4 => ?_) (fun c_4 => ?_)
  · skip
    rw [bI_eq, f2d_sign hf] at c_4
    refine lv_iconst (v := 0) hx hb dX1_ofFloat_12 (by decide) ?_
    refine lv_dload_n hx hb dX1_ofFloat_13 rfl (lv_at hl 0 rfl) ?_
    refine lv_dconst0 hx hb dX1_ofFloat_14 ?_
    refine lv_dcmp hx hb dX1_ofFloat_15 ?_
    refine lv_if_ge (tgt := 24) hx hb dX1_ofFloat_16 (by decide) (fun c_16 => ?_) (fun c_16 => ?_)
    · skip
      refine lv_dload_n hx hb dX1_ofFloat_24 rfl (lv_at hl 0 rfl) ?_
      refine lv_bipush (v := 127) hx hb dX1_ofFloat_25 (by decide) ?_
      refine lv_bipush (v := 23) hx hb dX1_ofFloat_27 (by decide) ?_
      refine m_calll (va_runS (As := [.double (FP.f2d f), .int 127, .int 23]) (rest := [.int 0]) ⟨hx, hb, hml, hown, hts⟩ (c_X1_magF l E M H.size f hf (FP.f2d f) (Or.inl ⟨rfl, fge hf c_16⟩)) (va_cwS 3 hts gX1_ofFloat_X1_magnitude rfl rfl rfl (by decide +kernel) ⟨Nat.le_of_ble_eq_true rfl, Nat.le_of_ble_eq_true rfl⟩) (m_preS hE hM) rfl rfl hl.1 rfl (lv_room (Nat.le_of_ble_eq_true rfl)) dX1_ofFloat_29 ⟨Nat.le_of_ble_eq_true rfl, Nat.le_of_ble_eq_true rfl⟩) hM hS hA (fun r2 u H locs hw hM hS => ?_)
      obtain ⟨e_r2, eu⟩ := hw
      rw [eu] at hM
      subst e_r2
      refine lv_l2i hx hb dX1_ofFloat_32 rfl ?_
      refine lv_ior hx hb dX1_ofFloat_33 ?_
      exact m_iret hx hb hr hlocks hM hS (Nat.le_refl _) (Nat.le_refl _) dX1_ofFloat_34 (by refine ⟨?_, rfl⟩; first | exact ior_lo c_4 | exact ior_hi c_4)
    · skip
      refine lv_dload_n hx hb dX1_ofFloat_19 rfl (lv_at hl 0 rfl) ?_
      refine lv_dneg hx hb dX1_ofFloat_20 ?_
      refine lv_goto (tgt := 25) hx hb dX1_ofFloat_21 (by decide) ?_
      refine lv_bipush (v := 127) hx hb dX1_ofFloat_25 (by decide) ?_
      refine lv_bipush (v := 23) hx hb dX1_ofFloat_27 (by decide) ?_
      refine m_calll (va_runS (As := [.double (FP.dneg (FP.f2d f)), .int 127, .int 23]) (rest := [.int 0]) ⟨hx, hb, hml, hown, hts⟩ (c_X1_magF l E M H.size f hf (FP.dneg (FP.f2d f)) (Or.inr ⟨rfl, flt hf c_16⟩)) (va_cwS 3 hts gX1_ofFloat_X1_magnitude rfl rfl rfl (by decide +kernel) ⟨Nat.le_of_ble_eq_true rfl, Nat.le_of_ble_eq_true rfl⟩) (m_preS hE hM) rfl rfl hl.1 rfl (lv_room (Nat.le_of_ble_eq_true rfl)) dX1_ofFloat_29 ⟨Nat.le_of_ble_eq_true rfl, Nat.le_of_ble_eq_true rfl⟩) hM hS hA (fun r2 u H locs hw hM hS => ?_)
      obtain ⟨e_r2, eu⟩ := hw
      rw [eu] at hM
      subst e_r2
      refine lv_l2i hx hb dX1_ofFloat_32 rfl ?_
      refine lv_ior hx hb dX1_ofFloat_33 ?_
      exact m_iret hx hb hr hlocks hM hS (Nat.le_refl _) (Nat.le_refl _) dX1_ofFloat_34 (by refine ⟨?_, rfl⟩; first | exact ior_lo c_4 | exact ior_hi c_4)
  · skip
    rw [bI_ne, f2d_sign hf] at c_4
    refine lv_ldc hx hb hown (hts (.constant RX1 23 (-2147483648)) (by decide +kernel)) dX1_ofFloat_7 ?_
    refine lv_goto (tgt := 13) hx hb dX1_ofFloat_9 (by decide) ?_
    refine lv_dload_n hx hb dX1_ofFloat_13 rfl (lv_at hl 0 rfl) ?_
    refine lv_dconst0 hx hb dX1_ofFloat_14 ?_
    refine lv_dcmp hx hb dX1_ofFloat_15 ?_
    refine lv_if_ge (tgt := 24) hx hb dX1_ofFloat_16 (by decide) (fun c_16 => ?_) (fun c_16 => ?_)
    · skip
      refine lv_dload_n hx hb dX1_ofFloat_24 rfl (lv_at hl 0 rfl) ?_
      refine lv_bipush (v := 127) hx hb dX1_ofFloat_25 (by decide) ?_
      refine lv_bipush (v := 23) hx hb dX1_ofFloat_27 (by decide) ?_
      refine m_calll (va_runS (As := [.double (FP.f2d f), .int 127, .int 23]) (rest := [.int (-2147483648)]) ⟨hx, hb, hml, hown, hts⟩ (c_X1_magF l E M H.size f hf (FP.f2d f) (Or.inl ⟨rfl, fge hf c_16⟩)) (va_cwS 3 hts gX1_ofFloat_X1_magnitude rfl rfl rfl (by decide +kernel) ⟨Nat.le_of_ble_eq_true rfl, Nat.le_of_ble_eq_true rfl⟩) (m_preS hE hM) rfl rfl hl.1 rfl (lv_room (Nat.le_of_ble_eq_true rfl)) dX1_ofFloat_29 ⟨Nat.le_of_ble_eq_true rfl, Nat.le_of_ble_eq_true rfl⟩) hM hS hA (fun r2 u H locs hw hM hS => ?_)
      obtain ⟨e_r2, eu⟩ := hw
      rw [eu] at hM
      subst e_r2
      refine lv_l2i hx hb dX1_ofFloat_32 rfl ?_
      refine lv_ior hx hb dX1_ofFloat_33 ?_
      exact m_iret hx hb hr hlocks hM hS (Nat.le_refl _) (Nat.le_refl _) dX1_ofFloat_34 (by refine ⟨?_, rfl⟩; first | exact ior_lo c_4 | exact ior_hi c_4)
    · skip
      refine lv_dload_n hx hb dX1_ofFloat_19 rfl (lv_at hl 0 rfl) ?_
      refine lv_dneg hx hb dX1_ofFloat_20 ?_
      refine lv_goto (tgt := 25) hx hb dX1_ofFloat_21 (by decide) ?_
      refine lv_bipush (v := 127) hx hb dX1_ofFloat_25 (by decide) ?_
      refine lv_bipush (v := 23) hx hb dX1_ofFloat_27 (by decide) ?_
      refine m_calll (va_runS (As := [.double (FP.dneg (FP.f2d f)), .int 127, .int 23]) (rest := [.int (-2147483648)]) ⟨hx, hb, hml, hown, hts⟩ (c_X1_magF l E M H.size f hf (FP.dneg (FP.f2d f)) (Or.inr ⟨rfl, flt hf c_16⟩)) (va_cwS 3 hts gX1_ofFloat_X1_magnitude rfl rfl rfl (by decide +kernel) ⟨Nat.le_of_ble_eq_true rfl, Nat.le_of_ble_eq_true rfl⟩) (m_preS hE hM) rfl rfl hl.1 rfl (lv_room (Nat.le_of_ble_eq_true rfl)) dX1_ofFloat_29 ⟨Nat.le_of_ble_eq_true rfl, Nat.le_of_ble_eq_true rfl⟩) hM hS hA (fun r2 u H locs hw hM hS => ?_)
      obtain ⟨e_r2, eu⟩ := hw
      rw [eu] at hM
      subst e_r2
      refine lv_l2i hx hb dX1_ofFloat_32 rfl ?_
      refine lv_ior hx hb dX1_ofFloat_33 ?_
      exact m_iret hx hb hr hlocks hM hS (Nat.le_refl _) (Nat.le_refl _) dX1_ofFloat_34 (by refine ⟨?_, rfl⟩; first | exact ior_lo c_4 | exact ior_hi c_4)
