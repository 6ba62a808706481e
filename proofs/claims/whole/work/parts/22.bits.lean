theorem p_hi {t P j N : Nat} (h : 2 ^ N ≤ t * 2 ^ j) (ht : t < 2 ^ (P + 1)) : N < P + 1 + j := by
  have h1 : 2 ^ N < 2 ^ (P + 1 + j) := by
    rw [Nat.pow_add 2 (P + 1) j]
    exact Nat.lt_of_le_of_lt h (Nat.mul_lt_mul_of_pos_right ht (Nat.two_pow_pos j))
  exact (Nat.pow_lt_pow_iff_right (by decide)).mp h1
theorem p_lo {t P j N : Nat} (h : t * 2 ^ j < 2 ^ N) (ht : 2 ^ P ≤ t) : P + j < N := by
  have h1 : 2 ^ (P + j) < 2 ^ N := by
    rw [Nat.pow_add]
    exact Nat.lt_of_le_of_lt (Nat.mul_le_mul_right _ ht) h
  exact (Nat.pow_lt_pow_iff_right (by decide)).mp h1
theorem dU_64 : FP.Core.val64 4895412794951729152 = .fin false (2 ^ 52) (((64 : Nat) : Int) - 52) := by decide +kernel
theorem dU_2 : FP.Core.val64 4611686018427387904 = .fin false (2 ^ 52) (((1 : Nat) : Int) - 52) := by decide +kernel
theorem fin_64 : FP.Core.DFin 4895412794951729152 := ⟨_, _, _, dU_64⟩
theorem nz_2 : ¬ FP.Core.DZero 4611686018427387904 := by rw [FP.Core.zero_bits2]; decide
theorem nI_le1 {e : Nat} (he : e < 2 ^ 31) : nI e ≤ 1 ↔ e ≤ 1 := nI_leI (b := 1) he (by decide)
theorem nI_le64 {e : Nat} (he : e < 2 ^ 31) : nI e ≤ 64 ↔ e ≤ 64 := nI_leI (b := 64) he (by decide)
theorem nI_m64 {e : Nat} (h : 64 ≤ e) : nI e + (-64) = nI (e - 64) := by
  have h64 : (64 : Int32) = nI 64 := rfl
  rw [h64, ← Int32.sub_eq_add_neg]
  exact pk_sub h
theorem nI_m1' {e : Nat} (h : 1 ≤ e) : nI e + (-1) = nI (e - 1) := by
  obtain ⟨d, rfl⟩ : ∃ d, e = d + 1 := ⟨e - 1, by omega⟩
  exact pk_m1 d
theorem nI_2mul (B : Nat) : (2 : Int32) * nI B = nI (2 * B) := pk_mul 2 B
theorem fin_one : FP.Core.DFin FP.dconst1 := FP.Core.fin_of_lt (K := 1024) (by decide) (by decide)
theorem nz_one : ¬ FP.Core.DZero FP.dconst1 := by rw [FP.Core.zero_bits2]; decide
theorem isneg_lt {x : UInt64} (hx0 : FP.Core.DFin x) (h : Op.cmpValue (FP.dcmp x FP.dconst0) CmpOp.g < 0) : 2 ^ 63 ≤ x.toNat := by
  have h1 : FP.Core.dcmp x 0 = some .lt := by
    cases ho : FP.Core.dcmp x 0 with
    | none => rw [show FP.dcmp x FP.dconst0 = none from ho] at h; exact absurd h (by decide)
    | some o => cases o with
      | lt => rfl
      | eq => rw [show FP.dcmp x FP.dconst0 = some .eq from ho] at h; exact absurd h (by decide)
      | gt => rw [show FP.dcmp x FP.dconst0 = some .gt from ho] at h; exact absurd h (by decide)
  have h2 := (FP.Core.dcmp_lt_key hx0.ne_nan fin_0.ne_nan).mp h1
  unfold FP.Core.dkey at h2
  rw [if_neg (by decide : ¬ 2 ^ 63 ≤ (0 : UInt64).toNat)] at h2
  split at h2
  · assumption
  · simp at h2
    omega
theorem isneg_gt {x : UInt64} (hx0 : FP.Core.DFin x) (h : ¬ Op.cmpValue (FP.dcmp x FP.dconst0) CmpOp.g < 0) (h0 : ¬ Op.cmpValue (FP.dcmp x FP.dconst0) CmpOp.l = 0) : ¬ 2 ^ 63 ≤ x.toNat := by
  have h1 : FP.Core.dcmp x 0 = some .gt := by
    obtain ⟨o, ho⟩ := FP.Core.dcmp_of_notNaN hx0.notNaN fin_0.notNaN
    cases o with
    | lt => rw [show FP.dcmp x FP.dconst0 = some .lt from ho] at h; exact absurd (by decide) h
    | eq => rw [show FP.dcmp x FP.dconst0 = some .eq from ho] at h0; exact absurd (by decide) h0
    | gt => exact ho
  have h2 := (FP.Core.dcmp_gt_key hx0.ne_nan fin_0.ne_nan).mp h1
  unfold FP.Core.dkey at h2
  rw [if_neg (by decide : ¬ 2 ^ 63 ≤ (0 : UInt64).toNat)] at h2
  split at h2
  · simp at h2
    omega
  · assumption
theorem isneg_z0 {x : UInt64} (h : FP.dcmp x FP.dconst0 = some .eq) (h1 : 0 ≤ Op.cmpValue (FP.dcmp (FP.ddiv FP.dconst1 x) FP.dconst0) CmpOp.g) : ¬ 2 ^ 63 ≤ x.toNat := by
  rcases FP.Core.zero_bits (t := x) h with rfl | rfl
  · decide
  · exact absurd h1 (by decide +kernel)
theorem isneg_z1 {x : UInt64} (h : FP.dcmp x FP.dconst0 = some .eq) (h1 : ¬ 0 ≤ Op.cmpValue (FP.dcmp (FP.ddiv FP.dconst1 x) FP.dconst0) CmpOp.g) : 2 ^ 63 ≤ x.toNat := by
  rcases FP.Core.zero_bits (t := x) h with rfl | rfl
  · exact absurd (by decide +kernel) h1
  · decide
set_option maxHeartbeats 4000000 in
set_option maxRecDepth 100000 in
theorem c_X1_isNegative (l : Launch) (E : mEnv) (M : mMem) (sz : Nat) (x : UInt64) (hx0 : FP.Core.DFin x)   : Met l yX1_isNegative wsX1_isNegative ({ frames := 0, cells := 0, slots := 0, locals := 0 }) (mPre E M sz [.double x]) (mQi E M sz (fun r u => r = bI (2 ^ 63 ≤ x.toNat) ∧ u = M)) (0) (0) (mA M sz) := by
  refine m_met [.double x] (by decide) rfl (Nat.le_of_ble_eq_true rfl) ?_
  intro p e s m below meth c ls H eH hx hb hr hts hown hlocks hnm hml hsz hE hM hS hA hl
  have hl : lv_has ls 2 [(0, .double x)] := hl
  refine lv_dload_n hx hb dX1_isNegative_0 rfl (lv_at hl 0 rfl) ?_
  refine lv_dconst0 hx hb dX1_isNegative_1 ?_
  refine lv_dcmp hx hb dX1_isNegative_2 ?_
  refine lv_if_lt (tgt := 20) hx hb dX1_isNegative_3 (by decide) (fun c_3 => ?_) (fun c_3 => ?_)
  · skip
    have k1 := isneg_lt hx0 c_3
    refine lv_iconst (v := 1) hx hb dX1_isNegative_20 (by decide) ?_
    refine lv_goto (tgt := 25) hx hb dX1_isNegative_21 (by decide) ?_
    exact m_zret hx hb hr hlocks hM hS (Nat.le_refl _) (Nat.le_refl _) dX1_isNegative_25 (by first | exact Or.inl rfl | exact Or.inr rfl) (by first | exact ⟨(bI_t k1).symm, rfl⟩ | exact ⟨(bI_f k1).symm, rfl⟩)
  · skip
    refine lv_dload_n hx hb dX1_isNegative_6 rfl (lv_at hl 0 rfl) ?_
    refine lv_dconst0 hx hb dX1_isNegative_7 ?_
    refine lv_dcmp hx hb dX1_isNegative_8 ?_
    refine lv_if_ne (tgt := 24) hx hb dX1_isNegative_9 (by decide) (fun c_9 => ?_) (fun c_9 => ?_)
    · skip
      have k1 := isneg_gt hx0 c_3 c_9
      refine lv_iconst (v := 0) hx hb dX1_isNegative_24 (by decide) ?_
      exact m_zret hx hb hr hlocks hM hS (Nat.le_refl _) (Nat.le_refl _) dX1_isNegative_25 (by first | exact Or.inl rfl | exact Or.inr rfl) (by first | exact ⟨(bI_t k1).symm, rfl⟩ | exact ⟨(bI_f k1).symm, rfl⟩)
    · skip
      rw [cmpv_eq] at c_9
      refine lv_dconst1 hx hb dX1_isNegative_12 ?_
      refine lv_dload_n hx hb dX1_isNegative_13 rfl (lv_at hl 0 rfl) ?_
      refine lv_ddiv hx hb dX1_isNegative_14 (n64_of (FP.Core.ddiv_out' fin_one nz_one hx0.notNaN)) ?_
      refine lv_dconst0 hx hb dX1_isNegative_15 ?_
      refine lv_dcmp hx hb dX1_isNegative_16 ?_
      refine lv_if_ge (tgt := 24) hx hb dX1_isNegative_17 (by decide) (fun c_17 => ?_) (fun c_17 => ?_)
      · skip
        have k1 := isneg_z0 c_9 c_17
        refine lv_iconst (v := 0) hx hb dX1_isNegative_24 (by decide) ?_
        exact m_zret hx hb hr hlocks hM hS (Nat.le_refl _) (Nat.le_refl _) dX1_isNegative_25 (by first | exact Or.inl rfl | exact Or.inr rfl) (by first | exact ⟨(bI_t k1).symm, rfl⟩ | exact ⟨(bI_f k1).symm, rfl⟩)
      · skip
        have k1 := isneg_z1 c_9 c_17
        refine lv_iconst (v := 1) hx hb dX1_isNegative_20 (by decide) ?_
        refine lv_goto (tgt := 25) hx hb dX1_isNegative_21 (by decide) ?_
        exact m_zret hx hb hr hlocks hM hS (Nat.le_refl _) (Nat.le_refl _) dX1_isNegative_25 (by first | exact Or.inl rfl | exact Or.inr rfl) (by first | exact ⟨(bI_t k1).symm, rfl⟩ | exact ⟨(bI_f k1).symm, rfl⟩)
set_option maxHeartbeats 4000000 in
set_option maxRecDepth 100000 in
theorem c_X1_mag0 (l : Launch) (E : mEnv) (M : mMem) (sz : Nat) (x : UInt64) (b q : Int32) (hz : FP.dcmp x FP.dconst0 = some .eq)   : Met l yX1_magnitude wsX1_magnitude ({ frames := 0, cells := 0, slots := 0, locals := 0 }) (mPre E M sz [.double x, .int b, .int q]) (mQl E M sz (fun r u => r = 0 ∧ u = M)) (0) (0) (mA M sz) := by
  refine m_met [.double x, .int b, .int q] (by decide) rfl (Nat.le_of_ble_eq_true rfl) ?_
  intro p e s m below meth c ls H eH hx hb hr hts hown hlocks hnm hml hsz hE hM hS hA hl
  have hl : lv_has ls 7 [(0, .double x), (2, .int b), (3, .int q)] := hl
  refine lv_dload_n hx hb dX1_magnitude_0 rfl (lv_at hl 0 rfl) ?_
  refine lv_dconst0 hx hb dX1_magnitude_1 ?_
  refine lv_dcmp hx hb dX1_magnitude_2 ?_
  refine lv_if_ne (tgt := 8) hx hb dX1_magnitude_3 (by decide) (fun h9 => False.elim (by revert h9; exact (fun h => h ((cmpv_eq _ _).mpr hz)))) (fun _ => ?_)
  refine lv_lconst (v := 0) hx hb dX1_magnitude_6 (by decide) ?_
  exact m_lret hx hb hr hlocks hM hS (Nat.le_refl _) (Nat.le_refl _) dX1_magnitude_7 (by exact ⟨rfl, rfl⟩)
theorem mag_end {mm : UInt64} {B P off k t ex j : Nat} (hex : ex = k + 1) (h4 : j + ex = k + off + B) (hB : B + P + off = 1075) (ht53 : t < 2 ^ 53) (hP : P ≤ 52) (hsh : lN k <<< ((nI P).toInt64 &&& 63) = lN (k * 2 ^ P)) (hPd : FP.Core.val64 (FP.l2d ((1 : Int64) <<< ((nI P).toInt64 &&& 63))) = .fin false (2 ^ 52) ((P : Int) - 52)) (h5 : dU mm (t * 2 ^ j)) (hk31 : k < 2 ^ 31 := by omega) : (nI ex - 1).toInt64 <<< ((nI P).toInt64 &&& 63) + FP.d2l (FP.dmul mm (FP.l2d ((1 : Int64) <<< ((nI P).toInt64 &&& 63)))) = lN (k * 2 ^ P + t) := by
  subst hex
  have hj : j + P = 1074 := by omega
  have h7 := dU_mul hPd ht53 (by omega) h5
  rw [hj] at h7
  rw [nI_pred, nI_l hk31, hsh, dU_d2l (by omega) h7, lN_add]
set_option maxHeartbeats 4000000 in
set_option maxRecDepth 100000 in
theorem c_X1_mag (l : Launch) (E : mEnv) (M : mMem) (sz : Nat) (x : UInt64) (B P off k t : Nat) (ht0 : 0 < t) (ht : t < 2 ^ (P + 1)) (hk : k = 0 ∨ 2 ^ P ≤ t) (hkB : k + 1 ≤ 2 * B) (hB : B + P + off = 1075) (hB1 : 1 ≤ B) (hP : P ≤ 52) (hBo : 2 * B + off ≤ 2046) (hU : dU x (t * 2 ^ (k + off))) (hPd : FP.Core.val64 (FP.l2d ((1 : Int64) <<< ((nI P).toInt64 &&& 63))) = .fin false (2 ^ 52) ((P : Int) - 52)) (hsh : lN k <<< ((nI P).toInt64 &&& 63) = lN (k * 2 ^ P))   : Met l yX1_magnitude wsX1_magnitude ({ frames := 0, cells := 0, slots := 0, locals := 0 }) (mPre E M sz [.double x, .int (nI B), .int (nI P)]) (mQl E M sz (fun r u => r = lN (k * 2 ^ P + t) ∧ u = M)) (0) (0) (mA M sz) := by
  refine m_met [.double x, .int (nI B), .int (nI P)] (by decide) rfl (Nat.le_of_ble_eq_true rfl) ?_
  intro p e s m below meth c ls H eH hx hb hr hts hown hlocks hnm hml hsz hE hM hS hA hl
  have hl : lv_has ls 7 [(0, .double x), (2, .int (nI B)), (3, .int (nI P))] := hl
  have ht53 : t < 2 ^ 53 := Nat.lt_of_lt_of_le ht (Nat.pow_le_pow_right (by decide) (by omega))
  have loop3 : ∀ (n ex j : Nat) (mm : UInt64) (ls : Array Slot), ex ≤ n → ex < 4000 → k + 1 ≤ ex → j + ex = k + off + B → dU mm (t * 2 ^ j) → lv_has ls 7 [(6, .int (nI ex)), (4, .double mm), (0, .double x), (2, .int (nI B)), (3, .int (nI P))] → W p l e ({ frames := 0, cells := 0, slots := 0, locals := 0 } : Room) s m #[.double x, .int (nI B), .int (nI P)] below meth c H [] 0 0 (MQ below (mQl E M sz (fun r u => r = lN (k * 2 ^ P + t) ∧ u = M)) #[.double x, .int (nI B), .int (nI P)] s (0) (0) (mA M sz)) (F0 m 77 ls []) := by
    intro n
    induction n with
    | zero =>
      intro ex j mm ls h1 h2 h3 h4 h5 hl
      omega
    | succ n ih =>
      intro ex j mm ls h1 h2 h3 h4 h5 hl
      refine lv_dload hx hb dX1_magnitude_77 (lv_at hl 1 rfl) ?_
      refine lv_dconst1 hx hb dX1_magnitude_79 ?_
      refine lv_dcmp hx hb dX1_magnitude_80 ?_
      refine lv_if_ge (tgt := 104) hx hb dX1_magnitude_81 (by decide) (fun c_81 => ?_) (fun c_81 => ?_)
      · skip
        rw [dU_lt h5 dU_lit1] at c_81
        have hex : ex = k + 1 := by have := p_hi c_81 ht; omega
        refine lv_iload hx hb dX1_magnitude_104 (lv_at hl 0 rfl) ?_
        refine lv_iconst (v := 1) hx hb dX1_magnitude_106 (by decide) ?_
        refine lv_isub hx hb dX1_magnitude_107 ?_
        refine lv_i2l hx hb dX1_magnitude_108 rfl ?_
        refine lv_iload_n hx hb dX1_magnitude_109 rfl (lv_at hl 4 rfl) ?_
        refine lv_lshl hx hb dX1_magnitude_110 rfl ?_
        refine lv_dload hx hb dX1_magnitude_111 (lv_at hl 1 rfl) ?_
        refine lv_lconst (v := 1) hx hb dX1_magnitude_113 (by decide) ?_
        refine lv_iload_n hx hb dX1_magnitude_114 rfl (lv_at hl 4 rfl) ?_
        refine lv_lshl hx hb dX1_magnitude_115 rfl ?_
        refine lv_l2d hx hb dX1_magnitude_116 ?_
        refine lv_dmul hx hb dX1_magnitude_117 (nn_mul h5.fin (FP.Core.l2d_fin _)) ?_
        refine lv_d2l hx hb dX1_magnitude_118 ?_
        refine lv_ladd hx hb dX1_magnitude_119 ?_
        exact m_lret hx hb hr hlocks hM hS (Nat.le_refl _) (Nat.le_refl _) dX1_magnitude_120 (by exact ⟨mag_end hex h4 hB ht53 hP hsh hPd h5 (by omega), rfl⟩)
      · skip
        rw [dU_lt h5 dU_lit1, Nat.not_le] at c_81
        refine lv_iload hx hb dX1_magnitude_84 (lv_at hl 0 rfl) ?_
        refine lv_iconst (v := 1) hx hb dX1_magnitude_86 (by decide) ?_
        refine lv_icmp_le (tgt := 104) hx hb dX1_magnitude_87 (by decide) (fun c_87 => ?_) (fun c_87 => ?_)
        · skip
          rw [nI_le1 (by omega)] at c_87
          have hex : ex = k + 1 := by omega
          refine lv_iload hx hb dX1_magnitude_104 (lv_at hl 0 rfl) ?_
          refine lv_iconst (v := 1) hx hb dX1_magnitude_106 (by decide) ?_
          refine lv_isub hx hb dX1_magnitude_107 ?_
          refine lv_i2l hx hb dX1_magnitude_108 rfl ?_
          refine lv_iload_n hx hb dX1_magnitude_109 rfl (lv_at hl 4 rfl) ?_
          refine lv_lshl hx hb dX1_magnitude_110 rfl ?_
          refine lv_dload hx hb dX1_magnitude_111 (lv_at hl 1 rfl) ?_
          refine lv_lconst (v := 1) hx hb dX1_magnitude_113 (by decide) ?_
          refine lv_iload_n hx hb dX1_magnitude_114 rfl (lv_at hl 4 rfl) ?_
          refine lv_lshl hx hb dX1_magnitude_115 rfl ?_
          refine lv_l2d hx hb dX1_magnitude_116 ?_
          refine lv_dmul hx hb dX1_magnitude_117 (nn_mul h5.fin (FP.Core.l2d_fin _)) ?_
          refine lv_d2l hx hb dX1_magnitude_118 ?_
          refine lv_ladd hx hb dX1_magnitude_119 ?_
          exact m_lret hx hb hr hlocks hM hS (Nat.le_refl _) (Nat.le_refl _) dX1_magnitude_120 (by exact ⟨mag_end hex h4 hB ht53 hP hsh hPd h5 (by omega), rfl⟩)
        · skip
          rw [nI_le1 (by omega)] at c_87
          have hnx : k + 2 ≤ ex := hk.elim (fun h => by omega) (fun h => by have := p_lo c_81 h; omega)
          refine lv_dload hx hb dX1_magnitude_90 (lv_at hl 1 rfl) ?_
          refine lv_ldc2d hx hb hown (hts (.constantDouble RX1 24 (4611686018427387904)) (by decide +kernel)) dX1_magnitude_92 ?_
          refine lv_dmul hx hb dX1_magnitude_95 (nn_mul h5.fin fin_2) ?_
          refine lv_dstore (lv' := [(4, .double (FP.dmul mm 4611686018427387904)), (6, .int (nI ex)), (0, .double x), (2, .int (nI B)), (3, .int (nI P))]) hx hb dX1_magnitude_96 hl (by decide) rfl (fun ls hl => ?_)
          refine lv_iinc (v := ((nI ex) + (-1))) (lv' := [(6, .int ((nI ex) + (-1))), (4, .double (FP.dmul mm 4611686018427387904)), (0, .double x), (2, .int (nI B)), (3, .int (nI P))]) hx hb dX1_magnitude_98 hl (k := 1) rfl rfl (by decide) rfl (fun ls hl => ?_)
          refine lv_goto (tgt := 77) hx hb dX1_magnitude_101 (by decide) ?_
          rw [nI_m1' (by omega)] at hl
          exact ih (ex - 1) (j + 1) _ ls (by omega) (by omega) (by omega) (by omega) (dU_mul dU_2 ht53 (by omega) h5) (lv_sub hl [0, 1, 2, 3, 4] rfl)
  have loop2 : ∀ (n ex j : Nat) (mm : UInt64) (ls : Array Slot), ex ≤ n → ex < 4000 → k + 1 ≤ ex → j + ex = k + off + B → dU mm (t * 2 ^ j) → lv_has ls 7 [(6, .int (nI ex)), (4, .double mm), (0, .double x), (2, .int (nI B)), (3, .int (nI P))] → W p l e ({ frames := 0, cells := 0, slots := 0, locals := 0 } : Room) s m #[.double x, .int (nI B), .int (nI P)] below meth c H [] 0 0 (MQ below (mQl E M sz (fun r u => r = lN (k * 2 ^ P + t) ∧ u = M)) #[.double x, .int (nI B), .int (nI P)] s (0) (0) (mA M sz)) (F0 m 45 ls []) := by
    intro n
    induction n with
    | zero =>
      intro ex j mm ls h1 h2 h3 h4 h5 hl
      omega
    | succ n ih =>
      intro ex j mm ls h1 h2 h3 h4 h5 hl
      refine lv_dload hx hb dX1_magnitude_45 (lv_at hl 1 rfl) ?_
      refine lv_ldc2d hx hb hown (hts (.constantDouble RX1 26 (4895412794951729152)) (by decide +kernel)) dX1_magnitude_47 ?_
      refine lv_dmul hx hb dX1_magnitude_50 (nn_mul h5.fin fin_64) ?_
      refine lv_dconst1 hx hb dX1_magnitude_51 ?_
      refine lv_dcmp hx hb dX1_magnitude_52 ?_
      refine lv_if_ge (tgt := 77) hx hb dX1_magnitude_53 (by decide) (fun c_53 => ?_) (fun c_53 => ?_)
      · skip
        rw [dU_lt (dU_mul dU_64 ht53 (by omega) h5) dU_lit1] at c_53
        exact loop3 ex ex j mm ls (Nat.le_refl _) h2 h3 h4 h5 hl
      · skip
        rw [dU_lt (dU_mul dU_64 ht53 (by omega) h5) dU_lit1, Nat.not_le] at c_53
        refine lv_iload hx hb dX1_magnitude_56 (lv_at hl 0 rfl) ?_
        refine lv_bipush (v := 64) hx hb dX1_magnitude_58 (by decide) ?_
        refine lv_icmp_le (tgt := 77) hx hb dX1_magnitude_60 (by decide) (fun c_60 => ?_) (fun c_60 => ?_)
        · skip
          rw [nI_le64 (by omega)] at c_60
          exact loop3 ex ex j mm ls (Nat.le_refl _) h2 h3 h4 h5 hl
        · skip
          rw [nI_le64 (by omega)] at c_60
          have hnx : k + 65 ≤ ex := hk.elim (fun h => by omega) (fun h => by have := p_lo c_53 h; omega)
          refine lv_dload hx hb dX1_magnitude_63 (lv_at hl 1 rfl) ?_
          refine lv_ldc2d hx hb hown (hts (.constantDouble RX1 26 (4895412794951729152)) (by decide +kernel)) dX1_magnitude_65 ?_
          refine lv_dmul hx hb dX1_magnitude_68 (nn_mul h5.fin fin_64) ?_
          refine lv_dstore (lv' := [(4, .double (FP.dmul mm 4895412794951729152)), (6, .int (nI ex)), (0, .double x), (2, .int (nI B)), (3, .int (nI P))]) hx hb dX1_magnitude_69 hl (by decide) rfl (fun ls hl => ?_)
          refine lv_iinc (v := ((nI ex) + (-64))) (lv' := [(6, .int ((nI ex) + (-64))), (4, .double (FP.dmul mm 4895412794951729152)), (0, .double x), (2, .int (nI B)), (3, .int (nI P))]) hx hb dX1_magnitude_71 hl (k := 1) rfl rfl (by decide) rfl (fun ls hl => ?_)
          refine lv_goto (tgt := 45) hx hb dX1_magnitude_74 (by decide) ?_
          rw [nI_m64 (by omega)] at hl
          exact ih (ex - 64) (j + 64) _ ls (by omega) (by omega) (by omega) (by omega) (dU_mul dU_64 ht53 (by omega) h5) (lv_sub hl [0, 1, 2, 3, 4] rfl)
  have loop1 : ∀ (n ex j : Nat) (mm : UInt64) (ls : Array Slot), 2 * B + 1 ≤ ex + n → ex < 4000 → B ≤ ex ∧ ex ≤ 2 * B → j + ex = k + off + B → dU mm (t * 2 ^ j) → lv_has ls 7 [(6, .int (nI ex)), (4, .double mm), (0, .double x), (2, .int (nI B)), (3, .int (nI P))] → W p l e ({ frames := 0, cells := 0, slots := 0, locals := 0 } : Room) s m #[.double x, .int (nI B), .int (nI P)] below meth c H [] 0 0 (MQ below (mQl E M sz (fun r u => r = lN (k * 2 ^ P + t) ∧ u = M)) #[.double x, .int (nI B), .int (nI P)] s (0) (0) (mA M sz)) (F0 m 14 ls []) := by
    intro n
    induction n with
    | zero =>
      intro ex j mm ls h1 h2 h3 h4 h5 hl
      omega
    | succ n ih =>
      intro ex j mm ls h1 h2 h3 h4 h5 hl
      refine lv_dload hx hb dX1_magnitude_14 (lv_at hl 1 rfl) ?_
      refine lv_ldc2d hx hb hown (hts (.constantDouble RX1 24 (4611686018427387904)) (by decide +kernel)) dX1_magnitude_16 ?_
      refine lv_dcmp hx hb dX1_magnitude_19 ?_
      refine lv_if_lt (tgt := 45) hx hb dX1_magnitude_20 (by decide) (fun c_20 => ?_) (fun c_20 => ?_)
      · skip
        rw [dU_ge h5 dU_lit2] at c_20
        have hnx : k + 1 ≤ ex := hk.elim (fun h => by omega) (fun h => by have := p_lo c_20 h; omega)
        exact loop2 ex ex j mm ls (Nat.le_refl _) h2 hnx h4 h5 hl
      · skip
        rw [dU_ge h5 dU_lit2, Nat.not_lt] at c_20
        have hjj := p_hi c_20 ht
        refine lv_iload hx hb dX1_magnitude_23 (lv_at hl 0 rfl) ?_
        refine lv_iconst (v := 2) hx hb dX1_magnitude_25 (by decide) ?_
        refine lv_iload_n hx hb dX1_magnitude_26 rfl (lv_at hl 3 rfl) ?_
        refine lv_imul hx hb dX1_magnitude_27 ?_
        refine lv_icmp_ge (tgt := 45) hx hb dX1_magnitude_28 (by decide) (fun c_28 => ?_) (fun c_28 => ?_)
        · skip
          rw [nI_2mul, nI_leI (by omega) (by omega)] at c_28
          have hnx : k + 1 ≤ ex := by omega
          exact loop2 ex ex j mm ls (Nat.le_refl _) h2 hnx h4 h5 hl
        · skip
          rw [nI_2mul, nI_leI (by omega) (by omega)] at c_28
          refine lv_dload hx hb dX1_magnitude_31 (lv_at hl 1 rfl) ?_
          refine lv_ldc2d hx hb hown (hts (.constantDouble RX1 24 (4611686018427387904)) (by decide +kernel)) dX1_magnitude_33 ?_
          refine lv_ddiv hx hb dX1_magnitude_36 (nn_div h5.fin fin_2 nz_2) ?_
          refine lv_dstore (lv' := [(4, .double (FP.ddiv mm 4611686018427387904)), (6, .int (nI ex)), (0, .double x), (2, .int (nI B)), (3, .int (nI P))]) hx hb dX1_magnitude_37 hl (by decide) rfl (fun ls hl => ?_)
          refine lv_iinc (v := ((nI ex) + 1)) (lv' := [(6, .int ((nI ex) + 1)), (4, .double (FP.ddiv mm 4611686018427387904)), (0, .double x), (2, .int (nI B)), (3, .int (nI P))]) hx hb dX1_magnitude_39 hl (k := 1) rfl rfl (by decide) rfl (fun ls hl => ?_)
          refine lv_goto (tgt := 14) hx hb dX1_magnitude_42 (by decide) ?_
          rw [nI_1] at hl
          obtain ⟨j2, rfl⟩ : ∃ j2, j = j2 + 1 := ⟨j - 1, by omega⟩
          exact ih (ex + 1) j2 _ ls (by omega) (by omega) (by omega) (by omega) (dU_half ht53 (by omega) h5) (lv_sub hl [0, 1, 2, 3, 4] rfl)
  refine lv_dload_n hx hb dX1_magnitude_0 rfl (lv_at hl 0 rfl) ?_
  refine lv_dconst0 hx hb dX1_magnitude_1 ?_
  refine lv_dcmp hx hb dX1_magnitude_2 ?_
  refine lv_if_ne (tgt := 8) hx hb dX1_magnitude_3 (by decide) (fun _ => ?_) (fun h9 => False.elim (by revert h9; exact (fun h => by rw [cmpv_eq, dU_cmp hU dU_lit0] at h; have h1 := (FP.Core.compare_eq_iff _ _).mp (Option.some.inj h); have h2 := Nat.mul_pos ht0 (Nat.two_pow_pos (k + off)); omega)))
  refine lv_dload_n hx hb dX1_magnitude_8 rfl (lv_at hl 0 rfl) ?_
  refine lv_dstore (lv' := [(4, .double x), (0, .double x), (2, .int (nI B)), (3, .int (nI P))]) hx hb dX1_magnitude_9 hl (by decide) rfl (fun ls hl => ?_)
  refine lv_iload_n hx hb dX1_magnitude_11 rfl (lv_at hl 2 rfl) ?_
  refine lv_istore (lv' := [(6, .int (nI B)), (4, .double x), (0, .double x), (2, .int (nI B)), (3, .int (nI P))]) hx hb dX1_magnitude_12 hl (by decide) rfl (fun ls hl => ?_)
  exact loop1 (2 * B + 1) B (k + off) x ls (by omega) (by omega) ⟨Nat.le_refl _, by omega⟩ (by omega) hU (lv_sub hl [0, 1, 2, 3, 4] rfl)
theorem shl64 {k : Nat} (P : Nat) (s : Int64) (hs : (s.toBitVec.smod 64).toNat = P) (h : k * 2 ^ P < 2 ^ 64) : lN k <<< s = lN (k * 2 ^ P) := by
  apply Int64.toBitVec_inj.mp
  apply BitVec.eq_of_toNat_eq
  show ((Int64.ofNat k).toBitVec <<< (s.toBitVec.smod 64).toNat).toNat = (Int64.ofNat (k * 2 ^ P)).toBitVec.toNat
  have hk : k < 2 ^ 64 := Nat.lt_of_le_of_lt (Nat.le_mul_of_pos_right k (Nat.two_pow_pos P)) h
  rw [hs, BitVec.toNat_shiftLeft, Nat.shiftLeft_eq, Int64.toBitVec_ofNat', Int64.toBitVec_ofNat', BitVec.toNat_ofNat, BitVec.toNat_ofNat, Nat.mod_eq_of_lt hk]
theorem hsh_52 {k : Nat} (h : k < 4096) : lN k <<< ((nI 52).toInt64 &&& 63) = lN (k * 2 ^ 52) := shl64 52 _ (by decide) (by omega)
theorem hsh_23 {k : Nat} (h : k < 4096) : lN k <<< ((nI 23).toInt64 &&& 63) = lN (k * 2 ^ 23) := shl64 23 _ (by decide) (by omega)
theorem hPd_52 : FP.Core.val64 (FP.l2d ((1 : Int64) <<< ((nI 52).toInt64 &&& 63))) = .fin false (2 ^ 52) (((52 : Nat) : Int) - 52) := by decide +kernel
theorem hPd_23 : FP.Core.val64 (FP.l2d ((1 : Int64) <<< ((nI 23).toInt64 &&& 63))) = .fin false (2 ^ 52) (((23 : Nat) : Int) - 52) := by decide +kernel
