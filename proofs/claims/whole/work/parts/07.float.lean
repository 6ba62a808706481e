/-! FLOATS: what is no NaN, and how great it may be -/
theorem n64_of {r : UInt64} (h : FP.dIsNaN r = false) : vf_n64 r := by
  have h1 : ¬ (FP.Core.dIsNaN r = true) := by rw [show FP.Core.dIsNaN r = false from h]; decide
  rw [FP.Core.isNaN_bits] at h1
  show r &&& 0x7fffffffffffffff ≤ 0x7ff0000000000000
  rw [UInt64.le_iff_toNat_le, FP.Core.mask_toNat]
  have : (0x7ff0000000000000 : UInt64).toNat = 9218868437227405312 := by decide
  omega
theorem n32_of {r : UInt32} (h : FP.fIsNaN r = false) : vf_n32 r := by
  have h1 : ¬ (FP.Core.fIsNaN r = true) := by rw [show FP.Core.fIsNaN r = false from h]; decide
  rw [FP.Core.isNaN_bits32] at h1
  show r &&& 0x7fffffff ≤ 0x7f800000
  rw [UInt32.le_iff_toNat_le, FP.Core.mask_toNat32]
  have : (0x7f800000 : UInt32).toNat = 2139095040 := by decide
  omega
/-- a double below 2 to the (K - 1023)rd -/
def dB (K : Nat) (x : UInt64) : Prop := x.toNat % 2 ^ 63 < K * 2 ^ 52
theorem dB.fin {K : Nat} {x : UInt64} (h : dB K x) (hK : K ≤ 2047) : FP.Core.DFin x := FP.Core.fin_of_lt h hK
theorem dB.le {K L : Nat} {x : UInt64} (h : dB K x) (hK : K ≤ L) : dB L x := Nat.lt_of_lt_of_le h (Nat.mul_le_mul_right _ hK)
theorem dB_i2d (v : Int32) : dB 1056 (FP.i2d v) := FP.Core.i2d_mag v
theorem dB_mul {a b : UInt64} {K L : Nat} (ha : dB K a) (hb : dB L b) (hK : K ≤ 2047) (hL : L ≤ 2047) : dB (K + L - 1025 + 3) (FP.dmul a b) := FP.Core.dmul_mag ha hb hK hL
theorem dB_add {a b : UInt64} {K : Nat} (ha : dB K a) (hb : dB K b) (hK : K ≤ 2047) : dB (K + 2) (FP.dadd a b) := FP.Core.dadd_mag ha hb hK
theorem nn_mul {a b : UInt64} (ha : FP.Core.DFin a) (hb : FP.Core.DFin b) : vf_n64 (FP.dmul a b) := n64_of (FP.Core.dmul_out ha hb)
theorem nn_add {a b : UInt64} (ha : FP.Core.DFin a) (hb : FP.Core.DFin b) : vf_n64 (FP.dadd a b) := n64_of (FP.Core.dadd_out ha.notNaN hb)
theorem nn_div {a b : UInt64} (ha : FP.Core.DFin a) (hb : FP.Core.DFin b) (hz : ¬ FP.Core.DZero b) : vf_n64 (FP.ddiv a b) := n64_of (FP.Core.ddiv_out ha.notNaN hb hz)
theorem fin_i2d (v : Int32) : FP.Core.DFin (FP.i2d v) := FP.Core.i2d_fin v
theorem fin_0 : FP.Core.DFin 0 := FP.Core.fin_of_lt (K := 1) (by decide) (by decide)
theorem fin_2 : FP.Core.DFin 4611686018427387904 := FP.Core.fin_of_lt (K := 1025) (by decide) (by decide)
theorem fin_m1 : FP.Core.DFin 13830554455654793216 := FP.Core.fin_of_lt (K := 1024) (by decide) (by decide)
theorem fin_1000 : FP.Core.DFin 4652007308841189376 := FP.Core.fin_of_lt (K := 1033) (by decide) (by decide)
theorem nz_1000 : ¬ FP.Core.DZero 4652007308841189376 := by rw [FP.Core.zero_bits2]; decide
/-- a level: at most 127 -/
def dL (x : UInt64) : Prop := x.toNat % 2 ^ 63 ≤ 4638637247447433216
theorem dL.b {x : UInt64} (h : dL x) : dB 1030 x := by unfold dL at h; unfold dB; omega
theorem dL_0 : dL 0 := by unfold dL; decide
set_option maxRecDepth 100000 in
theorem dL_all : ∀ k : Fin 128, (FP.i2d (nI k.val)).toNat % 2 ^ 63 ≤ 4638637247447433216 := by decide +kernel
theorem dL_pitch {p : Int32} (h0 : ¬ p < 0) (h1 : p ≤ 127) : dL (FP.i2d p) := by
  obtain ⟨j, hj, rfl⟩ := nI_of2 (M := 127) (n := 127) (by decide) h0 h1
  exact dL_all ⟨j, by omega⟩
theorem unitsOf_127 : FP.Core.unitsOf FP.Core.b64 4638637247447433216 = 127 * 2 ^ 1074 := by decide +kernel
theorem unitsOf_127000 : FP.Core.unitsOf FP.Core.b64 4683463786756046848 = 127000 * 2 ^ 1074 := by decide +kernel
theorem val_1000 : FP.Core.val64 4652007308841189376 = .fin false 8796093022208000 (-43) := by decide +kernel
theorem zmag_i2d (v : Int32) : FP.Core.zmag FP.Core.b64 (FP.Core.val64 (FP.i2d v)) = v.toInt.natAbs * 2 ^ 1074 := by
  have h := FP.Core.DInt_zval (FP.Core.i2d_int v)
  have h2 : FP.Core.zval FP.Core.b64 (FP.Core.val64 (FP.i2d v)) = FP.Core.signed (FP.Core.sgn (FP.Core.val64 (FP.i2d v))) (FP.Core.zmag FP.Core.b64 (FP.Core.val64 (FP.i2d v))) := rfl
  have h3 := congrArg Int.natAbs (h2.symm.trans h)
  rw [FP.Core.natAbs_signed, Int.natAbs_mul, Int.natAbs_natCast] at h3
  exact h3
/-- the level's step: it stays a level -/
theorem dL_mul {x : UInt64} {k : Int32} (hx : dL x) (hk : k.toInt.natAbs ≤ 1000) : (FP.dmul x (FP.i2d k)).toNat % 2 ^ 63 ≤ 4683463786756046848 := by
  obtain ⟨s, c, q, x1, x2, x3⟩ := FP.Core.fin_of_mag FP.Core.good_b64 (n := x.toNat) (by rw [FP.Core.mag_toNat64, FP.Core.infBits_b64]; unfold dL at hx; omega)
  obtain ⟨t, d, r, y1⟩ := FP.Core.i2d_fin k
  have y2 : FP.Core.fits FP.Core.b64 (.fin t d r) := y1 ▸ FP.Core.val64_fits (FP.i2d k)
  have y3 : FP.Core.zmag FP.Core.b64 (.fin t d r) = k.toInt.natAbs * 2 ^ 1074 := by rw [← y1]; exact zmag_i2d k
  obtain ⟨p1, p2, p3⟩ := FP.Core.product_units x2 y2
  have hd : FP.Core.decode FP.Core.b64 (FP.dmul x (FP.i2d k)).toNat = FP.Core.roundRatio FP.Core.b64 (s != t) (c * d) 1 (q + r) := by
    have h1 := FP.Core.val64_dmul x (FP.i2d k)
    rw [show FP.Core.val64 x = .fin s c q from x1, show FP.Core.val64 (FP.i2d k) = .fin t d r from y1, p1] at h1
    exact h1
  have := FP.Core.mag_le FP.Core.good_b64 (m := 4683463786756046848) hd (by decide) (e0 := 2 * FP.Core.b64.qmin) (by decide) p2 ?_
  · rw [FP.Core.mag_toNat64] at this
    exact this
  · rw [p3, x3, y3, unitsOf_127000, FP.Core.mag_toNat64, Nat.mul_one]
    have hu : FP.Core.unitsOf FP.Core.b64 (x.toNat % 2 ^ 63) ≤ 127 * 2 ^ 1074 := by
      rw [← unitsOf_127]
      exact FP.Core.unitsOf_le_iff.mpr hx
    have e1 : (FP.Core.b64.qmin - 2 * FP.Core.b64.qmin).toNat = 1074 := by decide
    rw [e1]
    calc FP.Core.unitsOf FP.Core.b64 (x.toNat % 2 ^ 63) * (k.toInt.natAbs * 2 ^ 1074) ≤ (127 * 2 ^ 1074) * (1000 * 2 ^ 1074) := Nat.mul_le_mul hu (Nat.mul_le_mul_right _ hk)
      _ = 127000 * 2 ^ 1074 * 2 ^ 1074 := by decide +kernel
theorem dL_div {y : UInt64} (hy : y.toNat % 2 ^ 63 ≤ 4683463786756046848) : dL (FP.ddiv y 4652007308841189376) := by
  obtain ⟨s, c, q, x1, x2, x3⟩ := FP.Core.fin_of_mag FP.Core.good_b64 (n := y.toNat) (by rw [FP.Core.mag_toNat64, FP.Core.infBits_b64]; omega)
  have hd : FP.Core.decode FP.Core.b64 (FP.ddiv y 4652007308841189376).toNat = FP.Core.roundRatio FP.Core.b64 (s != false) c 8796093022208000 (q - (-43)) := by
    have h1 := FP.Core.val64_ddiv y 4652007308841189376
    rw [show FP.Core.val64 y = .fin s c q from x1, val_1000] at h1
    exact h1
  have hq := x2.2.1
  have := FP.Core.mag_le FP.Core.good_b64 (m := 4638637247447433216) hd (by decide) (e0 := FP.Core.b64.qmin) (Int.le_refl _) (by have := FP.Core.qmin_b64; omega) ?_
  · rw [FP.Core.mag_toNat64] at this
    exact this
  · have hu : FP.Core.unitsOf FP.Core.b64 (y.toNat % 2 ^ 63) ≤ 127000 * 2 ^ 1074 := by
      rw [← unitsOf_127000]
      exact FP.Core.unitsOf_le_iff.mpr hy
    rw [unitsOf_127]
    rw [FP.Core.mag_toNat64] at x3
    rw [← x3] at hu
    have e2 : FP.Core.inUnits c (q - (-43)) FP.Core.b64.qmin = FP.Core.zmag FP.Core.b64 (.fin s c q) * 2 ^ 43 := by
      show c * 2 ^ (q - (-43) - FP.Core.b64.qmin).toNat = c * 2 ^ (q - FP.Core.b64.qmin).toNat * 2 ^ 43
      rw [show (q - (-43) - FP.Core.b64.qmin).toNat = (q - FP.Core.b64.qmin).toNat + 43 by omega, Nat.pow_add, Nat.mul_assoc]
    rw [e2, Int.sub_self]
    calc FP.Core.zmag FP.Core.b64 (.fin s c q) * 2 ^ 43 ≤ 127000 * 2 ^ 1074 * 2 ^ 43 := Nat.mul_le_mul_right _ hu
      _ = 127 * 2 ^ 1074 * 2 ^ (0 : Int).toNat * 8796093022208000 := by decide +kernel
theorem dL_step {x : UInt64} {k : Int32} (hx : dL x) (hk : k.toInt.natAbs ≤ 1000) : dL (FP.ddiv (FP.dmul x (FP.i2d k)) 4652007308841189376) := dL_div (dL_mul hx hk)
theorem div1000 {k : Int32} (hk : ¬ k = 0) : ((1000 : Int32) / k).toInt.natAbs ≤ 1000 := by
  rw [Int32.toInt_div]
  have h : ((1000 : Int32).toInt.tdiv k.toInt).natAbs ≤ 1000 := by
    rw [Int.natAbs_tdiv]
    exact Nat.div_le_self _ _
  generalize (1000 : Int32).toInt.tdiv k.toInt = z at h ⊢
  have h1 : -1000 ≤ z ∧ z ≤ 1000 := by omega
  rw [Int.bmod_eq_of_le (by omega) (by omega)]
  exact h
