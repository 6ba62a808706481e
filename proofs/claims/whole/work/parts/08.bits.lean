/-! DOUBLES BY THEIR UNITS: m is u times 2 to the -1074th, and not negative -/
def dU (m : UInt64) (u : Nat) : Prop := ∃ (c : Nat) (q : Int), FP.Core.val64 m = .fin false c q ∧ FP.Core.inUnits c q FP.Core.b64.qmin = u
theorem pow_cross {c t a k x y : Nat} (h : c * 2 ^ a = t * 2 ^ k) (hxy : x + k = y + a) : c * 2 ^ x = t * 2 ^ y := by
  have h1 : c * 2 ^ x * 2 ^ a = t * 2 ^ y * 2 ^ a := by
    calc c * 2 ^ x * 2 ^ a = c * 2 ^ a * 2 ^ x := Nat.mul_right_comm _ _ _
      _ = t * 2 ^ k * 2 ^ x := by rw [h]
      _ = t * 2 ^ (x + k) := by rw [Nat.mul_assoc, ← Nat.pow_add, Nat.add_comm k x]
      _ = t * 2 ^ y * 2 ^ a := by rw [hxy, Nat.pow_add, Nat.mul_assoc]
  exact Nat.eq_of_mul_eq_mul_right (Nat.two_pow_pos a) h1
theorem dU_mk {m : UInt64} {t k : Nat} (ht : t < 2 ^ 53) (hk : k ≤ 2045) (h : FP.Core.val64 m = FP.Core.roundRatio FP.Core.b64 false t 1 ((k : Int) - 1074)) : dU m (t * 2 ^ k) := by
  have hmx : FP.Core.b64.qmax = 971 := by decide
  obtain ⟨c, q, h1, h2⟩ := FP.Core.round_exact FP.Core.good_b64 false (c := t) (q := (k : Int) - 1074) ht (by rw [FP.Core.qmin_b64]; omega) (by omega)
  refine ⟨c, q, h.trans h1, ?_⟩
  rw [h2]
  show t * 2 ^ ((k : Int) - 1074 - FP.Core.b64.qmin).toNat = _
  rw [FP.Core.qmin_b64, show ((k : Int) - 1074 - (-1074)).toNat = k by omega]
theorem dU_at {m : UInt64} {t k c : Nat} {q : Int} (h1 : FP.Core.val64 m = .fin false c q) (h2 : FP.Core.inUnits c q FP.Core.b64.qmin = t * 2 ^ k) : ∃ a : Nat, q = (a : Int) - 1074 ∧ c * 2 ^ a = t * 2 ^ k := by
  have hf := FP.Core.val64_fits m
  rw [h1] at hf
  have hq := hf.2.1
  rw [FP.Core.qmin_b64] at hq
  refine ⟨(q + 1074).toNat, by omega, ?_⟩
  rw [← h2]
  show _ = c * 2 ^ (q - FP.Core.b64.qmin).toNat
  rw [FP.Core.qmin_b64, show (q - (-1074)).toNat = (q + 1074).toNat by omega]
theorem dU_mul {m b : UInt64} {t k n : Nat} (hb : FP.Core.val64 b = .fin false (2 ^ 52) ((n : Int) - 52)) (ht : t < 2 ^ 53) (hk : k + n ≤ 2045) (h : dU m (t * 2 ^ k)) : dU (FP.dmul m b) (t * 2 ^ (k + n)) := by
  obtain ⟨c, q, h1, h2⟩ := h
  obtain ⟨a, hq, ha⟩ := dU_at h1 h2
  refine dU_mk ht hk ?_
  rw [FP.Core.val64_dmul, h1, hb]
  show FP.Core.roundRatio FP.Core.b64 false (c * 2 ^ 52) 1 (q + ((n : Int) - 52)) = _
  refine FP.Core.roundRatio_congr (by decide) (by decide) ?_
  rw [Nat.mul_one, Nat.mul_one, Nat.mul_assoc, ← Nat.pow_add]
  exact pow_cross ha (by omega)
theorem quot_fin (f : FP.Core.Fmt) (s t : Bool) (c d : Nat) (q r : Int) (hd : ¬ d = 0) : FP.Core.quotient f (.fin s c q) (.fin t d r) = FP.Core.roundRatio f (s != t) c d (q - r) := by
  show (if d = 0 then (if c = 0 then FP.Core.Datum.nan else FP.Core.Datum.inf (s != t)) else FP.Core.roundRatio f (s != t) c d (q - r)) = _
  exact if_neg hd
theorem dU_half {m : UInt64} {t k : Nat} (ht : t < 2 ^ 53) (hk : k + 1 ≤ 2045) (h : dU m (t * 2 ^ (k + 1))) : dU (FP.ddiv m 4611686018427387904) (t * 2 ^ k) := by
  obtain ⟨c, q, h1, h2⟩ := h
  obtain ⟨a, hq, ha⟩ := dU_at h1 h2
  refine dU_mk ht (by omega) ?_
  rw [FP.Core.val64_ddiv, h1, show FP.Core.val64 4611686018427387904 = .fin false (2 ^ 52) (-51) by decide +kernel]
  have hqd : FP.Core.quotient FP.Core.b64 (.fin false c q) (.fin false (2 ^ 52) (-51)) = FP.Core.roundRatio FP.Core.b64 false c (2 ^ 52) (q - (-51)) := quot_fin _ _ _ _ _ _ _ (by decide)
  rw [hqd]
  refine FP.Core.roundRatio_congr (by decide) (by decide) ?_
  rw [Nat.mul_one, Nat.mul_assoc, ← Nat.pow_add]
  exact pow_cross ha (by omega)
theorem dU.fin {m : UInt64} {u : Nat} (h : dU m u) : FP.Core.DFin m := by
  obtain ⟨c, q, h1, _⟩ := h
  exact ⟨false, c, q, h1⟩
theorem dU.zval {m : UInt64} {u : Nat} (h : dU m u) : FP.Core.zval FP.Core.b64 (FP.Core.val64 m) = (u : Int) := by
  obtain ⟨c, q, h1, h2⟩ := h
  rw [h1]
  show FP.Core.signed false (FP.Core.inUnits c q FP.Core.b64.qmin) = _
  rw [h2]
  rfl
theorem dU_lit2 : dU 4611686018427387904 (2 ^ 1075) := ⟨2 ^ 52, -51, by decide +kernel, by decide +kernel⟩
theorem dU_lit1 : dU FP.dconst1 (2 ^ 1074) := ⟨2 ^ 52, -52, by decide +kernel, by decide +kernel⟩
theorem dU_lit0 : dU FP.dconst0 0 := ⟨0, -1074, by decide +kernel, by decide +kernel⟩
theorem dU_cmp {a b : UInt64} {u v : Nat} (ha : dU a u) (hb : dU b v) : FP.dcmp a b = some (compare (u : Int) (v : Int)) := by
  have h := FP.Core.dcmp_zval ha.fin.ne_nan hb.fin.ne_nan
  rw [ha.zval, hb.zval] at h
  exact h
theorem dU_ge {a b : UInt64} {u v : Nat} (ha : dU a u) (hb : dU b v) : Op.cmpValue (FP.dcmp a b) CmpOp.l < 0 ↔ u < v := by
  rw [dU_cmp ha hb]
  rcases Nat.lt_trichotomy u v with h | h | h
  · rw [show compare (u : Int) (v : Int) = .lt from (FP.Core.compare_lt_iff _ _).mpr (by omega)]
    simp [h, Op.cmpValue, FP.cmpInt]
  · rw [show compare (u : Int) (v : Int) = .eq from (FP.Core.compare_eq_iff _ _).mpr (by omega)]
    simp [h, Op.cmpValue, FP.cmpInt]
  · rw [show compare (u : Int) (v : Int) = .gt from (FP.Core.compare_gt_iff _ _).mpr (by omega)]
    simp [Op.cmpValue, FP.cmpInt]
    omega
theorem dU_lt {a b : UInt64} {u v : Nat} (ha : dU a u) (hb : dU b v) : 0 ≤ Op.cmpValue (FP.dcmp a b) CmpOp.g ↔ v ≤ u := by
  rw [dU_cmp ha hb]
  rcases Nat.lt_trichotomy u v with h | h | h
  · rw [show compare (u : Int) (v : Int) = .lt from (FP.Core.compare_lt_iff _ _).mpr (by omega)]
    simp [Op.cmpValue, FP.cmpInt]
    omega
  · rw [show compare (u : Int) (v : Int) = .eq from (FP.Core.compare_eq_iff _ _).mpr (by omega)]
    simp [h, Op.cmpValue, FP.cmpInt]
  · rw [show compare (u : Int) (v : Int) = .gt from (FP.Core.compare_gt_iff _ _).mpr (by omega)]
    simp [Op.cmpValue, FP.cmpInt]
    omega
theorem dU_d2l {m : UInt64} {t : Nat} (ht : t < 2 ^ 62) (h : dU m (t * 2 ^ 1074)) : FP.d2l m = lN t := by
  have h1 := FP.Core.d2l_val h.fin.ne_nan
  obtain ⟨c, q, h2, h3⟩ := h
  rw [h2] at h1
  have h4 : FP.Core.zmag FP.Core.b64 (.fin false c q) / FP.Core.one64 = t := by
    show FP.Core.inUnits c q FP.Core.b64.qmin / _ = t
    rw [h3, show FP.Core.one64 = 2 ^ 1074 from rfl]
    exact Nat.mul_div_cancel t (Nat.two_pow_pos _)
  rw [h4] at h1
  refine Int64.toInt.inj ?_
  rw [show (FP.d2l m).toInt = _ from h1, pk_lT (by omega)]
  show max (-2 ^ 63) (min (2 ^ 63 - 1) (t : Int)) = (t : Int)
  omega
/-- the units of a finite double with a clear sign -/
theorem dU_bits {x : UInt64} (hx : x.toNat < 9218868437227405312) : dU x (FP.Core.unitsOf FP.Core.b64 x.toNat) := by
  have hm : FP.Core.mag FP.Core.b64 x.toNat = x.toNat := by rw [FP.Core.mag_toNat64]; omega
  obtain ⟨c, q, h1, h2⟩ := FP.Core.decode_fin (f := FP.Core.b64) (n := x.toNat) (by rw [hm, FP.Core.infBits_b64]; exact hx)
  rw [hm] at h2
  refine ⟨c, q, ?_, h2⟩
  have hs : FP.Core.fieldS FP.Core.b64 x.toNat = false := by
    rw [FP.Core.fieldS_mag FP.Core.b64 (FP.Core.lt_full64 x), FP.Core.half_b64]
    exact decide_eq_false (by omega)
  rw [hs] at h1
  exact h1
