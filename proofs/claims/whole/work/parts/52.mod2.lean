/-- a table's row: what the model's cells say of it -/
def mTb (tb : Option Nat) (rw : Nat → sRw) (LN SZ : Nat → Int32) (SM : Nat → Int64) : Prop := ∀ r, tb = some r → r < 24 ∧ LN r = (rw r).1 ∧ SZ r = nI (rw r).2.1 ∧ (rw r).2.1 ≤ 40 ∧ (∀ q, q < (rw r).2.1 → SM (40 * r + q) = sBits (rw r).1 ((rw r).2.2 q)) ∧ ((rw r).1 = 1 → ∀ q, q < (rw r).2.1 → ∃ n : Int32, (rw r).2.2 q = FP.i2d n)
theorem mTb.lt {tb : Option Nat} {rw : Nat → sRw} {LN SZ : Nat → Int32} {SM : Nat → Int64} (h : mTb tb rw LN SZ SM) : ∀ r, tb = some r → r < 24 := fun r hr => (h r hr).1
theorem rd_8 {k0 on ph : Int32} {tb : tbT} (h : on = 0) (h1 : ¬ 0 ≤ ph - ph / 8 * 8) : sRead k0 on ph tb = (-8, FP.dconst0) := by unfold sRead; rw [if_pos ⟨h, h1⟩]
theorem rd_5 {k0 on ph : Int32} (h : ¬ (on = 0 ∧ ¬ 0 ≤ ph - ph / 8 * 8)) : sRead k0 on ph none = (-5, FP.dconst0) := by unfold sRead; rw [if_neg h]
theorem rd_6 {k0 on ph : Int32} {t : Int32 × Nat × (Nat → UInt64)} (h : ¬ (on = 0 ∧ ¬ 0 ≤ ph - ph / 8 * 8)) (h1 : ¬ t.1 = 1) : sRead k0 on ph (some t) = (-6, FP.dconst0) := by unfold sRead; rw [if_neg h]; exact if_neg h1
theorem rd_7 {k0 on ph : Int32} {t : Int32 × Nat × (Nat → UInt64)} (h : ¬ (on = 0 ∧ ¬ 0 ≤ ph - ph / 8 * 8)) (h1 : t.1 = 1) (h2 : ¬ (¬ ph + k0 < 0 ∧ ¬ nI t.2.1 ≤ ph + k0)) : sRead k0 on ph (some t) = (-7, FP.dconst0) := by unfold sRead; rw [if_neg h]; show (if t.1 = 1 then _ else _) = _; rw [if_pos h1, if_neg h2]
theorem rd_0 {k0 on ph : Int32} {t : Int32 × Nat × (Nat → UInt64)} (h : ¬ (on = 0 ∧ ¬ 0 ≤ ph - ph / 8 * 8)) (h1 : t.1 = 1) (h2 : ¬ ph + k0 < 0 ∧ ¬ nI t.2.1 ≤ ph + k0) : sRead k0 on ph (some t) = (0, t.2.2 (ph + k0).toNatClampNeg) := by unfold sRead; rw [if_neg h]; show (if t.1 = 1 then _ else _) = _; rw [if_pos h1, if_pos h2]
theorem k4z (j : Nat) : (4 : Int32) * nI j = nI (4 * j) := pk_mul 4 j
theorem kd5 {kd : Int32} (h : 0 ≤ kd ∧ kd ≤ 5) (h0 : ¬ kd = 0) (h1 : ¬ kd = 1) (h2 : ¬ kd = 2) (h3 : ¬ kd = 3) (h4 : ¬ kd = 4) : kd = 5 := by
  obtain ⟨j, hj, rfl⟩ := nI_of (Int32.not_lt.mpr h.1)
  have h5 := h.2
  rw [show (5 : Int32) = nI 5 from rfl, nI_leI hj (by decide)] at h5
  rcases (show j = 0 ∨ j = 1 ∨ j = 2 ∨ j = 3 ∨ j = 4 ∨ j = 5 by omega) with rfl | rfl | rfl | rfl | rfl | rfl
  · exact absurd rfl h0
  · exact absurd rfl h1
  · exact absurd rfl h2
  · exact absurd rfl h3
  · exact absurd rfl h4
  · rfl
theorem in_X10_reader_X10 : ∀ w ∈ wsX100, w ∈ wsX10_reader := by decide +kernel
set_option maxHeartbeats 4000000 in
set_option maxRecDepth 100000 in
theorem c_X10_reader (l : Launch) (E : mEnv) (M : mMem) (sz : Nat) (y b1 b2 b3 b4 b5 b6 b7 b8 b9 b10 b11 b12 b13 b14 b15 b16 : Nat) (ni nf0 bd st : Int32) (T : Nat → Int32) (LN : Nat → Int32) (SZ : Nat → Int32) (SM : Nat → Int64) (KN : Nat → Int32) (ON : Nat → Int32) (j : Nat) (hj : j < 12) (ph k0 on : Int32) (tb : Option Nat) (rw : Nat → sRw) (hT : T j = rI tb) (hK : KN (4 * j) = k0) (hOn : ON j = on) (hTb : mTb tb rw LN SZ SM) (g_y : M y = some (mO 8 [.ref b1, .ref b2, .ref b3, .ref b4, .ref b5, .int ni, .ref b6, .ref b7, .ref b8, .ref b9, .ref b10, .ref b11, .int nf0, .ref b12, .ref b13, .int bd, .int st, .int 0, .ref b14, .ref b15, .ref b16])) (g_b2 : M b2 = some (mI E 12 T)) (g_b3 : M b3 = some (mI E 24 LN)) (g_b4 : M b4 = some (mI E 24 SZ)) (g_b5 : M b5 = some (mJ E 960 SM)) (g_b7 : M b7 = some (mI E 48 KN)) (g_b9 : M b9 = some (mZ E 12 ON))  : Met l yX10_reader wsX10_reader ({ frames := 1, cells := 0, slots := 0, locals := 22 }) (mPre E M sz [.ref y, .int (nI j), .int ph]) (mQd E M sz (fun r u => r = (sRead k0 on ph (tb.map rw)).2 ∧ u = mUp M y (mO 8 [.ref b1, .ref b2, .ref b3, .ref b4, .ref b5, .int ni, .ref b6, .ref b7, .ref b8, .ref b9, .ref b10, .ref b11, .int nf0, .ref b12, .ref b13, .int bd, .int st, .int ((sRead k0 on ph (tb.map rw)).1), .ref b14, .ref b15, .ref b16]))) (0) (0) (mA M sz) := by
  refine m_met [.ref y, .int (nI j), .int ph] (by decide) rfl (Nat.le_of_ble_eq_true rfl) ?_
  intro p e s m below meth c ls H eH hx hb hr hts hown hlocks hnm hml hsz hE hM hS hA hl
  have hl : lv_has ls 5 [(0, .ref y), (1, .int (nI j)), (2, .int ph)] := hl
  have g0_y := g_y
  refine lv_aload_n hx hb dX10_reader_0 rfl (lv_at hl 0 rfl) ?_
  refine m_get (ci := 8) (v := .ref b9) (C := RX10) (T := TX10) (N := 21) hx hb hts in_X10_reader_X10 hown hE hM g_y rfl 9 (by decide) (hts (.fieldLink RX10 35 "CallWays2Model" "isOn" "[Z") (by decide +kernel)) (fun _ h9 => h9) rfl dX10_reader_1 ?_
  refine lv_iload_n hx hb dX10_reader_4 rfl (lv_at hl 1 rfl) ?_
  refine m_zald hx hb hE hM g_b9 (vp_in_nI hj (by decide)) dX10_reader_5 ?_
  rw [show ON (nI j).toNatClampNeg = on from by rw [nI_clamp (by omega), hOn]]
  refine lv_if_ne (tgt := 23) hx hb dX10_reader_6 (by decide) (fun c_6 => ?_) (fun c_6 => ?_)
  · skip
    have hne8 : ¬ (on = 0 ∧ ¬ 0 ≤ ph - ph / 8 * 8) := na1 c_6
    refine lv_aload_n hx hb dX10_reader_23 rfl (lv_at hl 0 rfl) ?_
    refine m_get (ci := 8) (v := .ref b2) (C := RX10) (T := TX10) (N := 21) hx hb hts in_X10_reader_X10 hown hE hM g_y rfl 1 (by decide) (hts (.fieldLink RX10 13 "CallWays2Model" "tables" "[I") (by decide +kernel)) (fun _ h9 => h9) rfl dX10_reader_24 ?_
    refine lv_iload_n hx hb dX10_reader_27 rfl (lv_at hl 1 rfl) ?_
    refine m_iald hx hb hE hM g_b2 (vp_in_nI hj (by decide)) dX10_reader_28 ?_
    rw [show T (nI j).toNatClampNeg = rI tb from by rw [nI_clamp (by omega), hT]]
    refine lv_istore_n (lv' := [(3, .int (rI tb)), (0, .ref y), (1, .int (nI j)), (2, .int ph)]) hx hb dX10_reader_29 rfl hl (by decide) rfl (fun ls hl => ?_)
    refine lv_iload_n hx hb dX10_reader_30 rfl (lv_at hl 3 rfl) ?_
    refine lv_aload_n hx hb dX10_reader_31 rfl (lv_at hl 1 rfl) ?_
    refine m_get (ci := 8) (v := .ref b7) (C := RX10) (T := TX10) (N := 21) hx hb hts in_X10_reader_X10 hown hE hM g_y rfl 7 (by decide) (hts (.fieldLink RX10 29 "CallWays2Model" "knobs" "[I") (by decide +kernel)) (fun _ h9 => h9) rfl dX10_reader_32 ?_
    refine lv_iconst (v := 4) hx hb dX10_reader_35 (by decide) ?_
    refine lv_iload_n hx hb dX10_reader_36 rfl (lv_at hl 2 rfl) ?_
    refine lv_imul hx hb dX10_reader_37 ?_
    rw [show (4 : Int32) * nI j = nI (4 * j) from k4z j]
    refine m_iald hx hb hE hM g_b7 (in_k4 (k := 0) hj (by decide)) dX10_reader_38 ?_
    rw [show KN (nI (4 * j)).toNatClampNeg = k0 from by rw [nI_clamp (by omega), hK]]
    refine lv_iadd hx hb dX10_reader_39 ?_
    refine lv_istore (lv' := [(4, .int (ph + k0)), (3, .int (rI tb)), (0, .ref y), (1, .int (nI j)), (2, .int ph)]) hx hb dX10_reader_40 hl (by decide) rfl (fun ls hl => ?_)
    refine lv_iload_n hx hb dX10_reader_42 rfl (lv_at hl 1 rfl) ?_
    rcases htb : tb with _ | w
    · refine lv_if_ge (tgt := 53) hx hb dX10_reader_43 (by decide) (fun h9 => absurd h9 (by decide)) (fun _ => ?_)
      refine lv_aload_n hx hb dX10_reader_46 rfl (lv_at hl 2 rfl) ?_
      refine lv_bipush (v := -5) hx hb dX10_reader_47 (by decide) ?_
      refine m_calld (va_runV (As := [.int (-5)]) (rest := []) ⟨hx, hb, hml, hown, hts⟩ (c_X10_failed l E M H.size y b1 b2 b3 b4 b5 b6 b7 b8 b9 b10 b11 b12 b13 b14 b15 b16 ni nf0 bd st 0 (-5) g_y) (cwV 1 hts gX10_reader_X10_failed rfl rfl rfl (by decide +kernel) ⟨Nat.le_of_ble_eq_true rfl, Nat.le_of_ble_eq_true rfl⟩) (m_preV hE hM g_y rfl) rfl rfl hl.1 rfl (lv_room (Nat.le_of_ble_eq_true rfl)) dX10_reader_49 ⟨Nat.le_of_ble_eq_true rfl, Nat.le_of_ble_eq_true rfl⟩) hM hS hA (fun r9 M1 H locs hw hM hS => ?_)
      obtain ⟨e_r9, eM1⟩ := hw
      subst e_r9
      have g_b2_ : M1 b2 = some (mI E 12 T) := by rw [eM1]; exact mUp_at (m_ne g_b2 g_y (by simp)) g_b2
      have g_b3_ : M1 b3 = some (mI E 24 LN) := by rw [eM1]; exact mUp_at (m_ne g_b3 g_y (by simp)) g_b3
      have g_b4_ : M1 b4 = some (mI E 24 SZ) := by rw [eM1]; exact mUp_at (m_ne g_b4 g_y (by simp)) g_b4
      have g_b5_ : M1 b5 = some (mJ E 960 SM) := by rw [eM1]; exact mUp_at (m_ne g_b5 g_y (by simp)) g_b5
      have g_b7_ : M1 b7 = some (mI E 48 KN) := by rw [eM1]; exact mUp_at (m_ne g_b7 g_y (by simp)) g_b7
      have g_b9_ : M1 b9 = some (mZ E 12 ON) := by rw [eM1]; exact mUp_at (m_ne g_b9 g_y (by simp)) g_b9
      have g_b2 := g_b2_
      have g_b3 := g_b3_
      have g_b4 := g_b4_
      have g_b5 := g_b5_
      have g_b7 := g_b7_
      have g_b9 := g_b9_
      have g_y : M1 y = some (mO 8 [.ref b1, .ref b2, .ref b3, .ref b4, .ref b5, .int ni, .ref b6, .ref b7, .ref b8, .ref b9, .ref b10, .ref b11, .int nf0, .ref b12, .ref b13, .int bd, .int st, .int (-5), .ref b14, .ref b15, .ref b16]) := by rw [eM1]; exact mUp_self _ _ _
      exact m_dret hx hb hr hlocks hM hS (Nat.le_refl _) (Nat.le_refl _) dX10_reader_52 (by show _ = (sRead k0 on ph none).2 ∧ _ = mUp M y (mO 8 [.ref b1, .ref b2, .ref b3, .ref b4, .ref b5, .int ni, .ref b6, .ref b7, .ref b8, .ref b9, .ref b10, .ref b11, .int nf0, .ref b12, .ref b13, .int bd, .int st, .int ((sRead k0 on ph none).1), .ref b14, .ref b15, .ref b16]); rw [rd_5 hne8]; refine ⟨rfl, ?_⟩; rw [eM1])
    · obtain ⟨hw24, hLn, hSz, hn40, hSm, hw1⟩ := hTb w htb
      refine lv_if_ge (tgt := 53) hx hb dX10_reader_43 (by decide) (fun _ => ?_) (fun h9 => absurd ((nI_leI (a := 0) (by decide) (by omega)).mpr (Nat.zero_le w)) h9)
      rw [htb] at hl
      replace hl : lv_has ls 5 [(4, .int (ph + k0)), (3, .int (nI w)), (0, .ref y), (1, .int (nI j)), (2, .int ph)] := hl
      refine lv_aload_n hx hb dX10_reader_53 rfl (lv_at hl 2 rfl) ?_
      refine m_get (ci := 8) (v := .ref b3) (C := RX10) (T := TX10) (N := 21) hx hb hts in_X10_reader_X10 hown hE hM g_y rfl 2 (by decide) (hts (.fieldLink RX10 16 "CallWays2Model" "laneOf" "[I") (by decide +kernel)) (fun _ h9 => h9) rfl dX10_reader_54 ?_
      refine lv_iload_n hx hb dX10_reader_57 rfl (lv_at hl 1 rfl) ?_
      refine m_iald hx hb hE hM g_b3 (vp_in_nI hw24 (by decide)) dX10_reader_58 ?_
      rw [show LN (nI w).toNatClampNeg = (rw w).1 from by rw [nI_clamp (by omega), hLn]]
      refine lv_iconst (v := 1) hx hb dX10_reader_59 (by decide) ?_
      refine lv_icmp_eq (tgt := 70) hx hb dX10_reader_60 (by decide) (fun c_60 => ?_) (fun c_60 => ?_)
      · skip
        refine lv_iload hx hb dX10_reader_70 (lv_at hl 0 rfl) ?_
        refine lv_iconst (v := 0) hx hb dX10_reader_72 (by decide) ?_
        refine lv_aload_n hx hb dX10_reader_73 rfl (lv_at hl 2 rfl) ?_
        refine m_get (ci := 8) (v := .ref b4) (C := RX10) (T := TX10) (N := 21) hx hb hts in_X10_reader_X10 hown hE hM g_y rfl 3 (by decide) (hts (.fieldLink RX10 19 "CallWays2Model" "sizeOf" "[I") (by decide +kernel)) (fun _ h9 => h9) rfl dX10_reader_74 ?_
        refine lv_iload_n hx hb dX10_reader_77 rfl (lv_at hl 1 rfl) ?_
        refine m_iald hx hb hE hM g_b4 (vp_in_nI hw24 (by decide)) dX10_reader_78 ?_
        rw [show SZ (nI w).toNatClampNeg = nI (rw w).2.1 from by rw [nI_clamp (by omega), hSz]]
        refine lv_iconst (v := 1) hx hb dX10_reader_79 (by decide) ?_
        refine lv_isub hx hb dX10_reader_80 ?_
        refine m_calli (va_runS (As := [.int (ph + k0), .int 0, .int ((nI (rw w).2.1) - 1)]) (rest := []) ⟨hx, hb, hml, hown, hts⟩ (c_X10_in l E M H.size (ph + k0) 0 (nI (rw w).2.1 - 1)) (va_cwS 3 hts gX10_reader_X10_in rfl rfl rfl (by decide +kernel) ⟨Nat.le_of_ble_eq_true rfl, Nat.le_of_ble_eq_true rfl⟩) (m_preS hE hM) rfl rfl hl.1 rfl (lv_room (Nat.le_of_ble_eq_true rfl)) dX10_reader_81 ⟨Nat.le_of_ble_eq_true rfl, Nat.le_of_ble_eq_true rfl⟩) hM hS hA (fun r0 u H locs hw hM hS => ?_)
        obtain ⟨e_r0, eu⟩ := hw
        rw [eu] at hM
        rw [bI_congr (in_m1 (by omega))] at e_r0
        subst e_r0
        refine lv_if_ne (tgt := 94) hx hb dX10_reader_84 (by decide) (fun c_84 => ?_) (fun c_84 => ?_)
        · skip
          rw [bI_ne] at c_84
          refine lv_aload_n hx hb dX10_reader_94 rfl (lv_at hl 2 rfl) ?_
          refine m_get (ci := 8) (v := .ref b5) (C := RX10) (T := TX10) (N := 21) hx hb hts in_X10_reader_X10 hown hE hM g_y rfl 4 (by decide) (hts (.fieldLink RX10 22 "CallWays2Model" "samples" "[J") (by decide +kernel)) (fun _ h9 => h9) rfl dX10_reader_95 ?_
          refine lv_bipush (v := 40) hx hb dX10_reader_98 (by decide) ?_
          refine lv_iload_n hx hb dX10_reader_100 rfl (lv_at hl 1 rfl) ?_
          refine lv_imul hx hb dX10_reader_101 ?_
          refine lv_iload hx hb dX10_reader_102 (lv_at hl 0 rfl) ?_
          refine lv_iadd hx hb dX10_reader_104 ?_
          obtain ⟨z, hz, hzz⟩ := vp_in_of (vp_in_h c_84 (by omega)) (by omega)
          obtain ⟨nv, hnv⟩ := hw1 c_60 z hz
          rw [show (40 : Int32) * nI w + (ph + k0) = nI (40 * w + z) from (by rw [hzz]; exact k40 w z)]
          refine m_lald hx hb hE hM g_b5 (in_k40 hw24 (by omega)) dX10_reader_105 ?_
          rw [show SM (nI (40 * w + z)).toNatClampNeg = nv.toInt64 from by rw [nI_clamp (by omega), hSm z hz, c_60, hnv, sBits1]]
          refine lv_l2d hx hb dX10_reader_106 ?_
          exact m_dret hx hb hr hlocks hM hS (Nat.le_refl _) (Nat.le_refl _) dX10_reader_107 (by show _ = (sRead k0 on ph (some (rw w))).2 ∧ _ = mUp M y (mO 8 [.ref b1, .ref b2, .ref b3, .ref b4, .ref b5, .int ni, .ref b6, .ref b7, .ref b8, .ref b9, .ref b10, .ref b11, .int nf0, .ref b12, .ref b13, .int bd, .int st, .int ((sRead k0 on ph (some (rw w))).1), .ref b14, .ref b15, .ref b16]); rw [rd_0 hne8 c_60 c_84]; refine ⟨?_, (mUp_id g0_y).symm⟩; show _ = (rw w).2.2 (ph + k0).toNatClampNeg; rw [hzz, nI_clamp (by omega), hnv, l2d_i])
        · skip
          rw [bI_eq] at c_84
          refine lv_aload_n hx hb dX10_reader_87 rfl (lv_at hl 2 rfl) ?_
          refine lv_bipush (v := -7) hx hb dX10_reader_88 (by decide) ?_
          refine m_calld (va_runV (As := [.int (-7)]) (rest := []) ⟨hx, hb, hml, hown, hts⟩ (c_X10_failed l E M H.size y b1 b2 b3 b4 b5 b6 b7 b8 b9 b10 b11 b12 b13 b14 b15 b16 ni nf0 bd st 0 (-7) g_y) (cwV 1 hts gX10_reader_X10_failed rfl rfl rfl (by decide +kernel) ⟨Nat.le_of_ble_eq_true rfl, Nat.le_of_ble_eq_true rfl⟩) (m_preV hE hM g_y rfl) rfl rfl hl.1 rfl (lv_room (Nat.le_of_ble_eq_true rfl)) dX10_reader_90 ⟨Nat.le_of_ble_eq_true rfl, Nat.le_of_ble_eq_true rfl⟩) hM hS hA (fun r9 M2 H locs hw hM hS => ?_)
          obtain ⟨e_r9, eM2⟩ := hw
          subst e_r9
          have g_b2_ : M2 b2 = some (mI E 12 T) := by rw [eM2]; exact mUp_at (m_ne g_b2 g_y (by simp)) g_b2
          have g_b3_ : M2 b3 = some (mI E 24 LN) := by rw [eM2]; exact mUp_at (m_ne g_b3 g_y (by simp)) g_b3
          have g_b4_ : M2 b4 = some (mI E 24 SZ) := by rw [eM2]; exact mUp_at (m_ne g_b4 g_y (by simp)) g_b4
          have g_b5_ : M2 b5 = some (mJ E 960 SM) := by rw [eM2]; exact mUp_at (m_ne g_b5 g_y (by simp)) g_b5
          have g_b7_ : M2 b7 = some (mI E 48 KN) := by rw [eM2]; exact mUp_at (m_ne g_b7 g_y (by simp)) g_b7
          have g_b9_ : M2 b9 = some (mZ E 12 ON) := by rw [eM2]; exact mUp_at (m_ne g_b9 g_y (by simp)) g_b9
          have g_b2 := g_b2_
          have g_b3 := g_b3_
          have g_b4 := g_b4_
          have g_b5 := g_b5_
          have g_b7 := g_b7_
          have g_b9 := g_b9_
          have g_y : M2 y = some (mO 8 [.ref b1, .ref b2, .ref b3, .ref b4, .ref b5, .int ni, .ref b6, .ref b7, .ref b8, .ref b9, .ref b10, .ref b11, .int nf0, .ref b12, .ref b13, .int bd, .int st, .int (-7), .ref b14, .ref b15, .ref b16]) := by rw [eM2]; exact mUp_self _ _ _
          exact m_dret hx hb hr hlocks hM hS (Nat.le_refl _) (Nat.le_refl _) dX10_reader_93 (by show _ = (sRead k0 on ph (some (rw w))).2 ∧ _ = mUp M y (mO 8 [.ref b1, .ref b2, .ref b3, .ref b4, .ref b5, .int ni, .ref b6, .ref b7, .ref b8, .ref b9, .ref b10, .ref b11, .int nf0, .ref b12, .ref b13, .int bd, .int st, .int ((sRead k0 on ph (some (rw w))).1), .ref b14, .ref b15, .ref b16]); rw [rd_7 hne8 c_60 c_84]; refine ⟨rfl, ?_⟩; rw [eM2])
      · skip
        refine lv_aload_n hx hb dX10_reader_63 rfl (lv_at hl 2 rfl) ?_
        refine lv_bipush (v := -6) hx hb dX10_reader_64 (by decide) ?_
        refine m_calld (va_runV (As := [.int (-6)]) (rest := []) ⟨hx, hb, hml, hown, hts⟩ (c_X10_failed l E M H.size y b1 b2 b3 b4 b5 b6 b7 b8 b9 b10 b11 b12 b13 b14 b15 b16 ni nf0 bd st 0 (-6) g_y) (cwV 1 hts gX10_reader_X10_failed rfl rfl rfl (by decide +kernel) ⟨Nat.le_of_ble_eq_true rfl, Nat.le_of_ble_eq_true rfl⟩) (m_preV hE hM g_y rfl) rfl rfl hl.1 rfl (lv_room (Nat.le_of_ble_eq_true rfl)) dX10_reader_66 ⟨Nat.le_of_ble_eq_true rfl, Nat.le_of_ble_eq_true rfl⟩) hM hS hA (fun r9 M3 H locs hw hM hS => ?_)
        obtain ⟨e_r9, eM3⟩ := hw
        subst e_r9
        have g_b2_ : M3 b2 = some (mI E 12 T) := by rw [eM3]; exact mUp_at (m_ne g_b2 g_y (by simp)) g_b2
        have g_b3_ : M3 b3 = some (mI E 24 LN) := by rw [eM3]; exact mUp_at (m_ne g_b3 g_y (by simp)) g_b3
        have g_b4_ : M3 b4 = some (mI E 24 SZ) := by rw [eM3]; exact mUp_at (m_ne g_b4 g_y (by simp)) g_b4
        have g_b5_ : M3 b5 = some (mJ E 960 SM) := by rw [eM3]; exact mUp_at (m_ne g_b5 g_y (by simp)) g_b5
        have g_b7_ : M3 b7 = some (mI E 48 KN) := by rw [eM3]; exact mUp_at (m_ne g_b7 g_y (by simp)) g_b7
        have g_b9_ : M3 b9 = some (mZ E 12 ON) := by rw [eM3]; exact mUp_at (m_ne g_b9 g_y (by simp)) g_b9
        have g_b2 := g_b2_
        have g_b3 := g_b3_
        have g_b4 := g_b4_
        have g_b5 := g_b5_
        have g_b7 := g_b7_
        have g_b9 := g_b9_
        have g_y : M3 y = some (mO 8 [.ref b1, .ref b2, .ref b3, .ref b4, .ref b5, .int ni, .ref b6, .ref b7, .ref b8, .ref b9, .ref b10, .ref b11, .int nf0, .ref b12, .ref b13, .int bd, .int st, .int (-6), .ref b14, .ref b15, .ref b16]) := by rw [eM3]; exact mUp_self _ _ _
        exact m_dret hx hb hr hlocks hM hS (Nat.le_refl _) (Nat.le_refl _) dX10_reader_69 (by show _ = (sRead k0 on ph (some (rw w))).2 ∧ _ = mUp M y (mO 8 [.ref b1, .ref b2, .ref b3, .ref b4, .ref b5, .int ni, .ref b6, .ref b7, .ref b8, .ref b9, .ref b10, .ref b11, .int nf0, .ref b12, .ref b13, .int bd, .int st, .int ((sRead k0 on ph (some (rw w))).1), .ref b14, .ref b15, .ref b16]); rw [rd_6 hne8 c_60]; refine ⟨rfl, ?_⟩; rw [eM3])
  · skip
    refine lv_iload_n hx hb dX10_reader_9 rfl (lv_at hl 2 rfl) ?_
    refine lv_bipush (v := 8) hx hb dX10_reader_10 (by decide) ?_
    refine lv_irem hx hb dX10_reader_12 (by decide) ?_
    refine lv_if_ge (tgt := 23) hx hb dX10_reader_13 (by decide) (fun c_13 => ?_) (fun c_13 => ?_)
    · skip
      have hne8 : ¬ (on = 0 ∧ ¬ 0 ≤ ph - ph / 8 * 8) := na2 (not_not_intro c_13)
      refine lv_aload_n hx hb dX10_reader_23 rfl (lv_at hl 0 rfl) ?_
      refine m_get (ci := 8) (v := .ref b2) (C := RX10) (T := TX10) (N := 21) hx hb hts in_X10_reader_X10 hown hE hM g_y rfl 1 (by decide) (hts (.fieldLink RX10 13 "CallWays2Model" "tables" "[I") (by decide +kernel)) (fun _ h9 => h9) rfl dX10_reader_24 ?_
      refine lv_iload_n hx hb dX10_reader_27 rfl (lv_at hl 1 rfl) ?_
      refine m_iald hx hb hE hM g_b2 (vp_in_nI hj (by decide)) dX10_reader_28 ?_
      rw [show T (nI j).toNatClampNeg = rI tb from by rw [nI_clamp (by omega), hT]]
      refine lv_istore_n (lv' := [(3, .int (rI tb)), (0, .ref y), (1, .int (nI j)), (2, .int ph)]) hx hb dX10_reader_29 rfl hl (by decide) rfl (fun ls hl => ?_)
      refine lv_iload_n hx hb dX10_reader_30 rfl (lv_at hl 3 rfl) ?_
      refine lv_aload_n hx hb dX10_reader_31 rfl (lv_at hl 1 rfl) ?_
      refine m_get (ci := 8) (v := .ref b7) (C := RX10) (T := TX10) (N := 21) hx hb hts in_X10_reader_X10 hown hE hM g_y rfl 7 (by decide) (hts (.fieldLink RX10 29 "CallWays2Model" "knobs" "[I") (by decide +kernel)) (fun _ h9 => h9) rfl dX10_reader_32 ?_
      refine lv_iconst (v := 4) hx hb dX10_reader_35 (by decide) ?_
      refine lv_iload_n hx hb dX10_reader_36 rfl (lv_at hl 2 rfl) ?_
      refine lv_imul hx hb dX10_reader_37 ?_
      rw [show (4 : Int32) * nI j = nI (4 * j) from k4z j]
      refine m_iald hx hb hE hM g_b7 (in_k4 (k := 0) hj (by decide)) dX10_reader_38 ?_
      rw [show KN (nI (4 * j)).toNatClampNeg = k0 from by rw [nI_clamp (by omega), hK]]
      refine lv_iadd hx hb dX10_reader_39 ?_
      refine lv_istore (lv' := [(4, .int (ph + k0)), (3, .int (rI tb)), (0, .ref y), (1, .int (nI j)), (2, .int ph)]) hx hb dX10_reader_40 hl (by decide) rfl (fun ls hl => ?_)
      refine lv_iload_n hx hb dX10_reader_42 rfl (lv_at hl 1 rfl) ?_
      rcases htb : tb with _ | w
      · refine lv_if_ge (tgt := 53) hx hb dX10_reader_43 (by decide) (fun h9 => absurd h9 (by decide)) (fun _ => ?_)
        refine lv_aload_n hx hb dX10_reader_46 rfl (lv_at hl 2 rfl) ?_
        refine lv_bipush (v := -5) hx hb dX10_reader_47 (by decide) ?_
        refine m_calld (va_runV (As := [.int (-5)]) (rest := []) ⟨hx, hb, hml, hown, hts⟩ (c_X10_failed l E M H.size y b1 b2 b3 b4 b5 b6 b7 b8 b9 b10 b11 b12 b13 b14 b15 b16 ni nf0 bd st 0 (-5) g_y) (cwV 1 hts gX10_reader_X10_failed rfl rfl rfl (by decide +kernel) ⟨Nat.le_of_ble_eq_true rfl, Nat.le_of_ble_eq_true rfl⟩) (m_preV hE hM g_y rfl) rfl rfl hl.1 rfl (lv_room (Nat.le_of_ble_eq_true rfl)) dX10_reader_49 ⟨Nat.le_of_ble_eq_true rfl, Nat.le_of_ble_eq_true rfl⟩) hM hS hA (fun r9 M4 H locs hw hM hS => ?_)
        obtain ⟨e_r9, eM4⟩ := hw
        subst e_r9
        have g_b2_ : M4 b2 = some (mI E 12 T) := by rw [eM4]; exact mUp_at (m_ne g_b2 g_y (by simp)) g_b2
        have g_b3_ : M4 b3 = some (mI E 24 LN) := by rw [eM4]; exact mUp_at (m_ne g_b3 g_y (by simp)) g_b3
        have g_b4_ : M4 b4 = some (mI E 24 SZ) := by rw [eM4]; exact mUp_at (m_ne g_b4 g_y (by simp)) g_b4
        have g_b5_ : M4 b5 = some (mJ E 960 SM) := by rw [eM4]; exact mUp_at (m_ne g_b5 g_y (by simp)) g_b5
        have g_b7_ : M4 b7 = some (mI E 48 KN) := by rw [eM4]; exact mUp_at (m_ne g_b7 g_y (by simp)) g_b7
        have g_b9_ : M4 b9 = some (mZ E 12 ON) := by rw [eM4]; exact mUp_at (m_ne g_b9 g_y (by simp)) g_b9
        have g_b2 := g_b2_
        have g_b3 := g_b3_
        have g_b4 := g_b4_
        have g_b5 := g_b5_
        have g_b7 := g_b7_
        have g_b9 := g_b9_
        have g_y : M4 y = some (mO 8 [.ref b1, .ref b2, .ref b3, .ref b4, .ref b5, .int ni, .ref b6, .ref b7, .ref b8, .ref b9, .ref b10, .ref b11, .int nf0, .ref b12, .ref b13, .int bd, .int st, .int (-5), .ref b14, .ref b15, .ref b16]) := by rw [eM4]; exact mUp_self _ _ _
        exact m_dret hx hb hr hlocks hM hS (Nat.le_refl _) (Nat.le_refl _) dX10_reader_52 (by show _ = (sRead k0 on ph none).2 ∧ _ = mUp M y (mO 8 [.ref b1, .ref b2, .ref b3, .ref b4, .ref b5, .int ni, .ref b6, .ref b7, .ref b8, .ref b9, .ref b10, .ref b11, .int nf0, .ref b12, .ref b13, .int bd, .int st, .int ((sRead k0 on ph none).1), .ref b14, .ref b15, .ref b16]); rw [rd_5 hne8]; refine ⟨rfl, ?_⟩; rw [eM4])
      · obtain ⟨hw24, hLn, hSz, hn40, hSm, hw1⟩ := hTb w htb
        refine lv_if_ge (tgt := 53) hx hb dX10_reader_43 (by decide) (fun _ => ?_) (fun h9 => absurd ((nI_leI (a := 0) (by decide) (by omega)).mpr (Nat.zero_le w)) h9)
        rw [htb] at hl
        replace hl : lv_has ls 5 [(4, .int (ph + k0)), (3, .int (nI w)), (0, .ref y), (1, .int (nI j)), (2, .int ph)] := hl
        refine lv_aload_n hx hb dX10_reader_53 rfl (lv_at hl 2 rfl) ?_
        refine m_get (ci := 8) (v := .ref b3) (C := RX10) (T := TX10) (N := 21) hx hb hts in_X10_reader_X10 hown hE hM g_y rfl 2 (by decide) (hts (.fieldLink RX10 16 "CallWays2Model" "laneOf" "[I") (by decide +kernel)) (fun _ h9 => h9) rfl dX10_reader_54 ?_
        refine lv_iload_n hx hb dX10_reader_57 rfl (lv_at hl 1 rfl) ?_
        refine m_iald hx hb hE hM g_b3 (vp_in_nI hw24 (by decide)) dX10_reader_58 ?_
        rw [show LN (nI w).toNatClampNeg = (rw w).1 from by rw [nI_clamp (by omega), hLn]]
        refine lv_iconst (v := 1) hx hb dX10_reader_59 (by decide) ?_
        refine lv_icmp_eq (tgt := 70) hx hb dX10_reader_60 (by decide) (fun c_60 => ?_) (fun c_60 => ?_)
        · skip
          refine lv_iload hx hb dX10_reader_70 (lv_at hl 0 rfl) ?_
          refine lv_iconst (v := 0) hx hb dX10_reader_72 (by decide) ?_
          refine lv_aload_n hx hb dX10_reader_73 rfl (lv_at hl 2 rfl) ?_
          refine m_get (ci := 8) (v := .ref b4) (C := RX10) (T := TX10) (N := 21) hx hb hts in_X10_reader_X10 hown hE hM g_y rfl 3 (by decide) (hts (.fieldLink RX10 19 "CallWays2Model" "sizeOf" "[I") (by decide +kernel)) (fun _ h9 => h9) rfl dX10_reader_74 ?_
          refine lv_iload_n hx hb dX10_reader_77 rfl (lv_at hl 1 rfl) ?_
          refine m_iald hx hb hE hM g_b4 (vp_in_nI hw24 (by decide)) dX10_reader_78 ?_
          rw [show SZ (nI w).toNatClampNeg = nI (rw w).2.1 from by rw [nI_clamp (by omega), hSz]]
          refine lv_iconst (v := 1) hx hb dX10_reader_79 (by decide) ?_
          refine lv_isub hx hb dX10_reader_80 ?_
          refine m_calli (va_runS (As := [.int (ph + k0), .int 0, .int ((nI (rw w).2.1) - 1)]) (rest := []) ⟨hx, hb, hml, hown, hts⟩ (c_X10_in l E M H.size (ph + k0) 0 (nI (rw w).2.1 - 1)) (va_cwS 3 hts gX10_reader_X10_in rfl rfl rfl (by decide +kernel) ⟨Nat.le_of_ble_eq_true rfl, Nat.le_of_ble_eq_true rfl⟩) (m_preS hE hM) rfl rfl hl.1 rfl (lv_room (Nat.le_of_ble_eq_true rfl)) dX10_reader_81 ⟨Nat.le_of_ble_eq_true rfl, Nat.le_of_ble_eq_true rfl⟩) hM hS hA (fun r0 u H locs hw hM hS => ?_)
          obtain ⟨e_r0, eu⟩ := hw
          rw [eu] at hM
          rw [bI_congr (in_m1 (by omega))] at e_r0
          subst e_r0
          refine lv_if_ne (tgt := 94) hx hb dX10_reader_84 (by decide) (fun c_84 => ?_) (fun c_84 => ?_)
          · skip
            rw [bI_ne] at c_84
            refine lv_aload_n hx hb dX10_reader_94 rfl (lv_at hl 2 rfl) ?_
            refine m_get (ci := 8) (v := .ref b5) (C := RX10) (T := TX10) (N := 21) hx hb hts in_X10_reader_X10 hown hE hM g_y rfl 4 (by decide) (hts (.fieldLink RX10 22 "CallWays2Model" "samples" "[J") (by decide +kernel)) (fun _ h9 => h9) rfl dX10_reader_95 ?_
            refine lv_bipush (v := 40) hx hb dX10_reader_98 (by decide) ?_
            refine lv_iload_n hx hb dX10_reader_100 rfl (lv_at hl 1 rfl) ?_
            refine lv_imul hx hb dX10_reader_101 ?_
            refine lv_iload hx hb dX10_reader_102 (lv_at hl 0 rfl) ?_
            refine lv_iadd hx hb dX10_reader_104 ?_
            obtain ⟨z, hz, hzz⟩ := vp_in_of (vp_in_h c_84 (by omega)) (by omega)
            obtain ⟨nv, hnv⟩ := hw1 c_60 z hz
            rw [show (40 : Int32) * nI w + (ph + k0) = nI (40 * w + z) from (by rw [hzz]; exact k40 w z)]
            refine m_lald hx hb hE hM g_b5 (in_k40 hw24 (by omega)) dX10_reader_105 ?_
            rw [show SM (nI (40 * w + z)).toNatClampNeg = nv.toInt64 from by rw [nI_clamp (by omega), hSm z hz, c_60, hnv, sBits1]]
            refine lv_l2d hx hb dX10_reader_106 ?_
            exact m_dret hx hb hr hlocks hM hS (Nat.le_refl _) (Nat.le_refl _) dX10_reader_107 (by show _ = (sRead k0 on ph (some (rw w))).2 ∧ _ = mUp M y (mO 8 [.ref b1, .ref b2, .ref b3, .ref b4, .ref b5, .int ni, .ref b6, .ref b7, .ref b8, .ref b9, .ref b10, .ref b11, .int nf0, .ref b12, .ref b13, .int bd, .int st, .int ((sRead k0 on ph (some (rw w))).1), .ref b14, .ref b15, .ref b16]); rw [rd_0 hne8 c_60 c_84]; refine ⟨?_, (mUp_id g0_y).symm⟩; show _ = (rw w).2.2 (ph + k0).toNatClampNeg; rw [hzz, nI_clamp (by omega), hnv, l2d_i])
          · skip
            rw [bI_eq] at c_84
            refine lv_aload_n hx hb dX10_reader_87 rfl (lv_at hl 2 rfl) ?_
            refine lv_bipush (v := -7) hx hb dX10_reader_88 (by decide) ?_
            refine m_calld (va_runV (As := [.int (-7)]) (rest := []) ⟨hx, hb, hml, hown, hts⟩ (c_X10_failed l E M H.size y b1 b2 b3 b4 b5 b6 b7 b8 b9 b10 b11 b12 b13 b14 b15 b16 ni nf0 bd st 0 (-7) g_y) (cwV 1 hts gX10_reader_X10_failed rfl rfl rfl (by decide +kernel) ⟨Nat.le_of_ble_eq_true rfl, Nat.le_of_ble_eq_true rfl⟩) (m_preV hE hM g_y rfl) rfl rfl hl.1 rfl (lv_room (Nat.le_of_ble_eq_true rfl)) dX10_reader_90 ⟨Nat.le_of_ble_eq_true rfl, Nat.le_of_ble_eq_true rfl⟩) hM hS hA (fun r9 M5 H locs hw hM hS => ?_)
            obtain ⟨e_r9, eM5⟩ := hw
            subst e_r9
            have g_b2_ : M5 b2 = some (mI E 12 T) := by rw [eM5]; exact mUp_at (m_ne g_b2 g_y (by simp)) g_b2
            have g_b3_ : M5 b3 = some (mI E 24 LN) := by rw [eM5]; exact mUp_at (m_ne g_b3 g_y (by simp)) g_b3
            have g_b4_ : M5 b4 = some (mI E 24 SZ) := by rw [eM5]; exact mUp_at (m_ne g_b4 g_y (by simp)) g_b4
            have g_b5_ : M5 b5 = some (mJ E 960 SM) := by rw [eM5]; exact mUp_at (m_ne g_b5 g_y (by simp)) g_b5
            have g_b7_ : M5 b7 = some (mI E 48 KN) := by rw [eM5]; exact mUp_at (m_ne g_b7 g_y (by simp)) g_b7
            have g_b9_ : M5 b9 = some (mZ E 12 ON) := by rw [eM5]; exact mUp_at (m_ne g_b9 g_y (by simp)) g_b9
            have g_b2 := g_b2_
            have g_b3 := g_b3_
            have g_b4 := g_b4_
            have g_b5 := g_b5_
            have g_b7 := g_b7_
            have g_b9 := g_b9_
            have g_y : M5 y = some (mO 8 [.ref b1, .ref b2, .ref b3, .ref b4, .ref b5, .int ni, .ref b6, .ref b7, .ref b8, .ref b9, .ref b10, .ref b11, .int nf0, .ref b12, .ref b13, .int bd, .int st, .int (-7), .ref b14, .ref b15, .ref b16]) := by rw [eM5]; exact mUp_self _ _ _
            exact m_dret hx hb hr hlocks hM hS (Nat.le_refl _) (Nat.le_refl _) dX10_reader_93 (by show _ = (sRead k0 on ph (some (rw w))).2 ∧ _ = mUp M y (mO 8 [.ref b1, .ref b2, .ref b3, .ref b4, .ref b5, .int ni, .ref b6, .ref b7, .ref b8, .ref b9, .ref b10, .ref b11, .int nf0, .ref b12, .ref b13, .int bd, .int st, .int ((sRead k0 on ph (some (rw w))).1), .ref b14, .ref b15, .ref b16]); rw [rd_7 hne8 c_60 c_84]; refine ⟨rfl, ?_⟩; rw [eM5])
        · skip
          refine lv_aload_n hx hb dX10_reader_63 rfl (lv_at hl 2 rfl) ?_
          refine lv_bipush (v := -6) hx hb dX10_reader_64 (by decide) ?_
          refine m_calld (va_runV (As := [.int (-6)]) (rest := []) ⟨hx, hb, hml, hown, hts⟩ (c_X10_failed l E M H.size y b1 b2 b3 b4 b5 b6 b7 b8 b9 b10 b11 b12 b13 b14 b15 b16 ni nf0 bd st 0 (-6) g_y) (cwV 1 hts gX10_reader_X10_failed rfl rfl rfl (by decide +kernel) ⟨Nat.le_of_ble_eq_true rfl, Nat.le_of_ble_eq_true rfl⟩) (m_preV hE hM g_y rfl) rfl rfl hl.1 rfl (lv_room (Nat.le_of_ble_eq_true rfl)) dX10_reader_66 ⟨Nat.le_of_ble_eq_true rfl, Nat.le_of_ble_eq_true rfl⟩) hM hS hA (fun r9 M6 H locs hw hM hS => ?_)
          obtain ⟨e_r9, eM6⟩ := hw
          subst e_r9
          have g_b2_ : M6 b2 = some (mI E 12 T) := by rw [eM6]; exact mUp_at (m_ne g_b2 g_y (by simp)) g_b2
          have g_b3_ : M6 b3 = some (mI E 24 LN) := by rw [eM6]; exact mUp_at (m_ne g_b3 g_y (by simp)) g_b3
          have g_b4_ : M6 b4 = some (mI E 24 SZ) := by rw [eM6]; exact mUp_at (m_ne g_b4 g_y (by simp)) g_b4
          have g_b5_ : M6 b5 = some (mJ E 960 SM) := by rw [eM6]; exact mUp_at (m_ne g_b5 g_y (by simp)) g_b5
          have g_b7_ : M6 b7 = some (mI E 48 KN) := by rw [eM6]; exact mUp_at (m_ne g_b7 g_y (by simp)) g_b7
          have g_b9_ : M6 b9 = some (mZ E 12 ON) := by rw [eM6]; exact mUp_at (m_ne g_b9 g_y (by simp)) g_b9
          have g_b2 := g_b2_
          have g_b3 := g_b3_
          have g_b4 := g_b4_
          have g_b5 := g_b5_
          have g_b7 := g_b7_
          have g_b9 := g_b9_
          have g_y : M6 y = some (mO 8 [.ref b1, .ref b2, .ref b3, .ref b4, .ref b5, .int ni, .ref b6, .ref b7, .ref b8, .ref b9, .ref b10, .ref b11, .int nf0, .ref b12, .ref b13, .int bd, .int st, .int (-6), .ref b14, .ref b15, .ref b16]) := by rw [eM6]; exact mUp_self _ _ _
          exact m_dret hx hb hr hlocks hM hS (Nat.le_refl _) (Nat.le_refl _) dX10_reader_69 (by show _ = (sRead k0 on ph (some (rw w))).2 ∧ _ = mUp M y (mO 8 [.ref b1, .ref b2, .ref b3, .ref b4, .ref b5, .int ni, .ref b6, .ref b7, .ref b8, .ref b9, .ref b10, .ref b11, .int nf0, .ref b12, .ref b13, .int bd, .int st, .int ((sRead k0 on ph (some (rw w))).1), .ref b14, .ref b15, .ref b16]); rw [rd_6 hne8 c_60]; refine ⟨rfl, ?_⟩; rw [eM6])
    · skip
      refine lv_aload_n hx hb dX10_reader_16 rfl (lv_at hl 0 rfl) ?_
      refine lv_bipush (v := -8) hx hb dX10_reader_17 (by decide) ?_
      refine m_calld (va_runV (As := [.int (-8)]) (rest := []) ⟨hx, hb, hml, hown, hts⟩ (c_X10_failed l E M H.size y b1 b2 b3 b4 b5 b6 b7 b8 b9 b10 b11 b12 b13 b14 b15 b16 ni nf0 bd st 0 (-8) g_y) (cwV 1 hts gX10_reader_X10_failed rfl rfl rfl (by decide +kernel) ⟨Nat.le_of_ble_eq_true rfl, Nat.le_of_ble_eq_true rfl⟩) (m_preV hE hM g_y rfl) rfl rfl hl.1 rfl (lv_room (Nat.le_of_ble_eq_true rfl)) dX10_reader_19 ⟨Nat.le_of_ble_eq_true rfl, Nat.le_of_ble_eq_true rfl⟩) hM hS hA (fun r9 M7 H locs hw hM hS => ?_)
      obtain ⟨e_r9, eM7⟩ := hw
      subst e_r9
      have g_b2_ : M7 b2 = some (mI E 12 T) := by rw [eM7]; exact mUp_at (m_ne g_b2 g_y (by simp)) g_b2
      have g_b3_ : M7 b3 = some (mI E 24 LN) := by rw [eM7]; exact mUp_at (m_ne g_b3 g_y (by simp)) g_b3
      have g_b4_ : M7 b4 = some (mI E 24 SZ) := by rw [eM7]; exact mUp_at (m_ne g_b4 g_y (by simp)) g_b4
      have g_b5_ : M7 b5 = some (mJ E 960 SM) := by rw [eM7]; exact mUp_at (m_ne g_b5 g_y (by simp)) g_b5
      have g_b7_ : M7 b7 = some (mI E 48 KN) := by rw [eM7]; exact mUp_at (m_ne g_b7 g_y (by simp)) g_b7
      have g_b9_ : M7 b9 = some (mZ E 12 ON) := by rw [eM7]; exact mUp_at (m_ne g_b9 g_y (by simp)) g_b9
      have g_b2 := g_b2_
      have g_b3 := g_b3_
      have g_b4 := g_b4_
      have g_b5 := g_b5_
      have g_b7 := g_b7_
      have g_b9 := g_b9_
      have g_y : M7 y = some (mO 8 [.ref b1, .ref b2, .ref b3, .ref b4, .ref b5, .int ni, .ref b6, .ref b7, .ref b8, .ref b9, .ref b10, .ref b11, .int nf0, .ref b12, .ref b13, .int bd, .int st, .int (-8), .ref b14, .ref b15, .ref b16]) := by rw [eM7]; exact mUp_self _ _ _
      exact m_dret hx hb hr hlocks hM hS (Nat.le_refl _) (Nat.le_refl _) dX10_reader_22 (by rw [rd_8 c_6 c_13]; refine ⟨rfl, ?_⟩; rw [eM7])
theorem in_X10_through_X10 : ∀ w ∈ wsX100, w ∈ wsX10_through := by decide +kernel
set_option maxHeartbeats 4000000 in
set_option maxRecDepth 100000 in
theorem c_X10_through (l : Launch) (E : mEnv) (M : mMem) (sz : Nat) (y b1 b2 b3 b4 b5 b6 b7 b8 b9 b10 b11 b12 b13 b14 b15 b16 : Nat) (ni nf0 bd st fa : Int32) (KD : Nat → Int32) (NM : Nat → Int32) (f : Nat) (hf : f < 8) (x : UInt64) (hx0 : FP.Core.DFin x) (kd an : Int32) (hKd : KD f = kd) (hAn : NM f = an) (hk5 : 0 ≤ kd ∧ kd ≤ 5) (g_y : M y = some (mO 8 [.ref b1, .ref b2, .ref b3, .ref b4, .ref b5, .int ni, .ref b6, .ref b7, .ref b8, .ref b9, .ref b10, .ref b11, .int nf0, .ref b12, .ref b13, .int bd, .int st, .int fa, .ref b14, .ref b15, .ref b16])) (g_b12 : M b12 = some (mI E 8 KD)) (g_b13 : M b13 = some (mI E 8 NM))  : Met l yX10_through wsX10_through ({ frames := 3, cells := 0, slots := 0, locals := 72 }) (mPre E M sz [.ref y, .int (nI f), .double x]) (mQd E M sz (fun r u => r = (if sRef kd (FP.i2d an) x then FP.dconst0 else sPass kd (FP.i2d an) x) ∧ u = mUp M y (mO 8 [.ref b1, .ref b2, .ref b3, .ref b4, .ref b5, .int ni, .ref b6, .ref b7, .ref b8, .ref b9, .ref b10, .ref b11, .int nf0, .ref b12, .ref b13, .int bd, .int st, .int (if sRef kd (FP.i2d an) x then -3 else fa), .ref b14, .ref b15, .ref b16]))) (0) (0) (mA M sz) := by
  refine m_met [.ref y, .int (nI f), .double x] (by decide) rfl (Nat.le_of_ble_eq_true rfl) ?_
  intro p e s m below meth c ls H eH hx hb hr hts hown hlocks hnm hml hsz hE hM hS hA hl
  have hl : lv_has ls 6 [(0, .ref y), (1, .int (nI f)), (2, .double x)] := hl
  have g0_y := g_y
  refine lv_aload_n hx hb dX10_through_0 rfl (lv_at hl 0 rfl) ?_
  refine m_get (ci := 8) (v := .ref b13) (C := RX10) (T := TX10) (N := 21) hx hb hts in_X10_through_X10 hown hE hM g_y rfl 14 (by decide) (hts (.fieldLink RX10 49 "CallWays2Model" "numberOf" "[I") (by decide +kernel)) (fun _ h9 => h9) rfl dX10_through_1 ?_
  refine lv_iload_n hx hb dX10_through_4 rfl (lv_at hl 1 rfl) ?_
  refine m_iald hx hb hE hM g_b13 (vp_in_nI hf (by decide)) dX10_through_5 ?_
  rw [show NM (nI f).toNatClampNeg = an from by rw [nI_clamp (by omega), hAn]]
  refine lv_i2d hx hb dX10_through_6 ?_
  refine lv_dstore (lv' := [(4, .double (FP.i2d an)), (0, .ref y), (1, .int (nI f)), (2, .double x)]) hx hb dX10_through_7 hl (by decide) rfl (fun ls hl => ?_)
  refine lv_aload_n hx hb dX10_through_9 rfl (lv_at hl 1 rfl) ?_
  refine m_get (ci := 8) (v := .ref b12) (C := RX10) (T := TX10) (N := 21) hx hb hts in_X10_through_X10 hown hE hM g_y rfl 13 (by decide) (hts (.fieldLink RX10 46 "CallWays2Model" "kindOf" "[I") (by decide +kernel)) (fun _ h9 => h9) rfl dX10_through_10 ?_
  refine lv_iload_n hx hb dX10_through_13 rfl (lv_at hl 2 rfl) ?_
  refine m_iald hx hb hE hM g_b12 (vp_in_nI hf (by decide)) dX10_through_14 ?_
  rw [show KD (nI f).toNatClampNeg = kd from by rw [nI_clamp (by omega), hKd]]
  by_cases s_15_0 : kd = 0
  · refine lv_tableIn (off := 33) (tgt := 48) hx hb dX10_through_15 (by rw [s_15_0]; decide) (by rw [s_15_0]; decide) (by rw [s_15_0]; rfl) (by decide) ?_
    refine lv_dload_n hx hb dX10_through_48 rfl (lv_at hl 3 rfl) ?_
    refine lv_dload hx hb dX10_through_49 (lv_at hl 0 rfl) ?_
    refine lv_dadd hx hb dX10_through_51 (nn_add hx0 (fin_i2d _)) ?_
    exact m_dret hx hb hr hlocks hM hS (Nat.le_refl _) (Nat.le_refl _) dX10_through_52 (by have hnr : ¬ sRef kd (FP.i2d an) x := fun h => absurd h.1 (by rw [s_15_0]; decide); rw [if_neg hnr, if_neg hnr]; refine ⟨?_, (mUp_id g0_y).symm⟩; rw [s_15_0]; rfl)
  by_cases s_15_1 : kd = 1
  · refine lv_tableIn (off := 38) (tgt := 53) hx hb dX10_through_15 (by rw [s_15_1]; decide) (by rw [s_15_1]; decide) (by rw [s_15_1]; rfl) (by decide) ?_
    refine lv_dload_n hx hb dX10_through_53 rfl (lv_at hl 3 rfl) ?_
    refine lv_dload hx hb dX10_through_54 (lv_at hl 0 rfl) ?_
    refine lv_dmul hx hb dX10_through_56 (nn_mul hx0 (fin_i2d _)) ?_
    exact m_dret hx hb hr hlocks hM hS (Nat.le_refl _) (Nat.le_refl _) dX10_through_57 (by have hnr : ¬ sRef kd (FP.i2d an) x := fun h => absurd h.1 (by rw [s_15_1]; decide); rw [if_neg hnr, if_neg hnr]; refine ⟨?_, (mUp_id g0_y).symm⟩; rw [s_15_1]; rfl)
  by_cases s_15_2 : kd = 2
  · refine lv_tableIn (off := 43) (tgt := 58) hx hb dX10_through_15 (by rw [s_15_2]; decide) (by rw [s_15_2]; decide) (by rw [s_15_2]; rfl) (by decide) ?_
    refine lv_dload_n hx hb dX10_through_58 rfl (lv_at hl 3 rfl) ?_
    refine lv_dload hx hb dX10_through_59 (lv_at hl 0 rfl) ?_
    refine lv_dcmp hx hb dX10_through_61 ?_
    refine lv_if_lt (tgt := 79) hx hb dX10_through_62 (by decide) (fun c_62 => ?_) (fun c_62 => ?_)
    · skip
      have hfin := pass2x hx0 (Or.inl c_62)
      refine lv_dload_n hx hb dX10_through_79 rfl (lv_at hl 3 rfl) ?_
      refine lv_goto (tgt := 85) hx hb dX10_through_80 (by decide) ?_
      exact m_dret hx hb hr hlocks hM hS (Nat.le_refl _) (Nat.le_refl _) dX10_through_85 (by have hnr : ¬ sRef kd (FP.i2d an) x := fun h => absurd h.1 (by rw [s_15_2]; decide); rw [if_neg hnr, if_neg hnr]; refine ⟨?_, (mUp_id g0_y).symm⟩; rw [s_15_2]; exact hfin)
    · skip
      refine lv_dload_n hx hb dX10_through_65 rfl (lv_at hl 3 rfl) ?_
      refine lv_dload hx hb dX10_through_66 (lv_at hl 0 rfl) ?_
      refine lv_dcmp hx hb dX10_through_68 ?_
      refine lv_if_ne (tgt := 83) hx hb dX10_through_69 (by decide) (fun c_69 => ?_) (fun c_69 => ?_)
      · skip
        have hfin := pass2a hx0 c_62 (Or.inl c_69)
        refine lv_dload hx hb dX10_through_83 (lv_at hl 0 rfl) ?_
        exact m_dret hx hb hr hlocks hM hS (Nat.le_refl _) (Nat.le_refl _) dX10_through_85 (by have hnr : ¬ sRef kd (FP.i2d an) x := fun h => absurd h.1 (by rw [s_15_2]; decide); rw [if_neg hnr, if_neg hnr]; refine ⟨?_, (mUp_id g0_y).symm⟩; rw [s_15_2]; exact hfin)
      · skip
        refine lv_dload_n hx hb dX10_through_72 rfl (lv_at hl 3 rfl) ?_
        refine m_calli (va_runS (As := [.double x]) (rest := []) ⟨hx, hb, hml, hown, hts⟩ (c_X10_isMinus l E M H.size x hx0) (va_cwS 1 hts gX10_through_X10_isMinus rfl rfl rfl (by decide +kernel) ⟨Nat.le_of_ble_eq_true rfl, Nat.le_of_ble_eq_true rfl⟩) (m_preS hE hM) rfl rfl hl.1 rfl (lv_room (Nat.le_of_ble_eq_true rfl)) dX10_through_73 ⟨Nat.le_of_ble_eq_true rfl, Nat.le_of_ble_eq_true rfl⟩) hM hS hA (fun r1 u H locs hw hM hS => ?_)
        obtain ⟨e_r1, eu⟩ := hw
        rw [eu] at hM
        subst e_r1
        refine lv_if_eq (tgt := 83) hx hb dX10_through_76 (by decide) (fun c_76 => ?_) (fun c_76 => ?_)
        · skip
          rw [bI_eq] at c_76
          have hfin := pass2a hx0 c_62 (Or.inr c_76)
          refine lv_dload hx hb dX10_through_83 (lv_at hl 0 rfl) ?_
          exact m_dret hx hb hr hlocks hM hS (Nat.le_refl _) (Nat.le_refl _) dX10_through_85 (by have hnr : ¬ sRef kd (FP.i2d an) x := fun h => absurd h.1 (by rw [s_15_2]; decide); rw [if_neg hnr, if_neg hnr]; refine ⟨?_, (mUp_id g0_y).symm⟩; rw [s_15_2]; exact hfin)
        · skip
          rw [bI_ne] at c_76
          have hfin := pass2x hx0 (Or.inr ⟨c_69, c_76⟩)
          refine lv_dload_n hx hb dX10_through_79 rfl (lv_at hl 3 rfl) ?_
          refine lv_goto (tgt := 85) hx hb dX10_through_80 (by decide) ?_
          exact m_dret hx hb hr hlocks hM hS (Nat.le_refl _) (Nat.le_refl _) dX10_through_85 (by have hnr : ¬ sRef kd (FP.i2d an) x := fun h => absurd h.1 (by rw [s_15_2]; decide); rw [if_neg hnr, if_neg hnr]; refine ⟨?_, (mUp_id g0_y).symm⟩; rw [s_15_2]; exact hfin)
  by_cases s_15_3 : kd = 3
  · refine lv_tableIn (off := 71) (tgt := 86) hx hb dX10_through_15 (by rw [s_15_3]; decide) (by rw [s_15_3]; decide) (by rw [s_15_3]; rfl) (by decide) ?_
    refine lv_dload_n hx hb dX10_through_86 rfl (lv_at hl 3 rfl) ?_
    refine lv_dload hx hb dX10_through_87 (lv_at hl 0 rfl) ?_
    refine lv_dcmp hx hb dX10_through_89 ?_
    refine lv_if_gt (tgt := 107) hx hb dX10_through_90 (by decide) (fun c_90 => ?_) (fun c_90 => ?_)
    · skip
      have hfin := pass3x hx0 (Or.inl c_90)
      refine lv_dload_n hx hb dX10_through_107 rfl (lv_at hl 3 rfl) ?_
      refine lv_goto (tgt := 113) hx hb dX10_through_108 (by decide) ?_
      exact m_dret hx hb hr hlocks hM hS (Nat.le_refl _) (Nat.le_refl _) dX10_through_113 (by have hnr : ¬ sRef kd (FP.i2d an) x := fun h => absurd h.1 (by rw [s_15_3]; decide); rw [if_neg hnr, if_neg hnr]; refine ⟨?_, (mUp_id g0_y).symm⟩; rw [s_15_3]; exact hfin)
    · skip
      refine lv_dload_n hx hb dX10_through_93 rfl (lv_at hl 3 rfl) ?_
      refine lv_dload hx hb dX10_through_94 (lv_at hl 0 rfl) ?_
      refine lv_dcmp hx hb dX10_through_96 ?_
      refine lv_if_ne (tgt := 111) hx hb dX10_through_97 (by decide) (fun c_97 => ?_) (fun c_97 => ?_)
      · skip
        have hfin := pass3a hx0 c_90
        refine lv_dload hx hb dX10_through_111 (lv_at hl 0 rfl) ?_
        exact m_dret hx hb hr hlocks hM hS (Nat.le_refl _) (Nat.le_refl _) dX10_through_113 (by have hnr : ¬ sRef kd (FP.i2d an) x := fun h => absurd h.1 (by rw [s_15_3]; decide); rw [if_neg hnr, if_neg hnr]; refine ⟨?_, (mUp_id g0_y).symm⟩; rw [s_15_3]; exact hfin)
      · skip
        refine lv_dload_n hx hb dX10_through_100 rfl (lv_at hl 3 rfl) ?_
        refine m_calli (va_runS (As := [.double x]) (rest := []) ⟨hx, hb, hml, hown, hts⟩ (c_X10_isMinus l E M H.size x hx0) (va_cwS 1 hts gX10_through_X10_isMinus rfl rfl rfl (by decide +kernel) ⟨Nat.le_of_ble_eq_true rfl, Nat.le_of_ble_eq_true rfl⟩) (m_preS hE hM) rfl rfl hl.1 rfl (lv_room (Nat.le_of_ble_eq_true rfl)) dX10_through_101 ⟨Nat.le_of_ble_eq_true rfl, Nat.le_of_ble_eq_true rfl⟩) hM hS hA (fun r1 u H locs hw hM hS => ?_)
        obtain ⟨e_r1, eu⟩ := hw
        rw [eu] at hM
        subst e_r1
        refine lv_if_ne (tgt := 111) hx hb dX10_through_104 (by decide) (fun c_104 => ?_) (fun c_104 => ?_)
        · skip
          rw [bI_ne] at c_104
          have hfin := pass3a hx0 c_90
          refine lv_dload hx hb dX10_through_111 (lv_at hl 0 rfl) ?_
          exact m_dret hx hb hr hlocks hM hS (Nat.le_refl _) (Nat.le_refl _) dX10_through_113 (by have hnr : ¬ sRef kd (FP.i2d an) x := fun h => absurd h.1 (by rw [s_15_3]; decide); rw [if_neg hnr, if_neg hnr]; refine ⟨?_, (mUp_id g0_y).symm⟩; rw [s_15_3]; exact hfin)
        · skip
          rw [bI_eq] at c_104
          have hfin := pass3x hx0 (Or.inr ⟨c_97, c_104⟩)
          refine lv_dload_n hx hb dX10_through_107 rfl (lv_at hl 3 rfl) ?_
          refine lv_goto (tgt := 113) hx hb dX10_through_108 (by decide) ?_
          exact m_dret hx hb hr hlocks hM hS (Nat.le_refl _) (Nat.le_refl _) dX10_through_113 (by have hnr : ¬ sRef kd (FP.i2d an) x := fun h => absurd h.1 (by rw [s_15_3]; decide); rw [if_neg hnr, if_neg hnr]; refine ⟨?_, (mUp_id g0_y).symm⟩; rw [s_15_3]; exact hfin)
  by_cases s_15_4 : kd = 4
  · refine lv_tableIn (off := 99) (tgt := 114) hx hb dX10_through_15 (by rw [s_15_4]; decide) (by rw [s_15_4]; decide) (by rw [s_15_4]; rfl) (by decide) ?_
    refine lv_dload_n hx hb dX10_through_114 rfl (lv_at hl 3 rfl) ?_
    exact m_dret hx hb hr hlocks hM hS (Nat.le_refl _) (Nat.le_refl _) dX10_through_115 (by have hnr : ¬ sRef kd (FP.i2d an) x := fun h => absurd h.1 (by rw [s_15_4]; decide); rw [if_neg hnr, if_neg hnr]; refine ⟨?_, (mUp_id g0_y).symm⟩; rw [s_15_4]; rfl)
  refine lv_tableOut (tgt := 116) hx hb dX10_through_15 (tab_out (x := kd) (n := 4) (by decide) (fun j hj => match j, hj with | 0, _ => s_15_0 | 1, _ => s_15_1 | 2, _ => s_15_2 | 3, _ => s_15_3 | 4, _ => s_15_4 | j + 5, h => absurd h (by omega))) (by decide) ?_
  have hk : kd = 5 := kd5 hk5 s_15_0 s_15_1 s_15_2 s_15_3 s_15_4
  refine lv_dload_n hx hb dX10_through_116 rfl (lv_at hl 3 rfl) ?_
  refine lv_dload hx hb dX10_through_117 (lv_at hl 0 rfl) ?_
  refine lv_dcmp hx hb dX10_through_119 ?_
  refine lv_if_ne (tgt := 132) hx hb dX10_through_120 (by decide) (fun c_120 => ?_) (fun c_120 => ?_)
  · skip
    rw [cmpv_eq] at c_120
    refine lv_dload_n hx hb dX10_through_132 rfl (lv_at hl 3 rfl) ?_
    exact m_dret hx hb hr hlocks hM hS (Nat.le_refl _) (Nat.le_refl _) dX10_through_133 (by have hr : ¬ sRef kd (FP.i2d an) x := na2 c_120; rw [if_neg hr, if_neg hr]; refine ⟨?_, (mUp_id g0_y).symm⟩; rw [hk]; rfl)
  · skip
    rw [cmpv_eq] at c_120
    refine lv_aload_n hx hb dX10_through_123 rfl (lv_at hl 1 rfl) ?_
    refine lv_bipush (v := -3) hx hb dX10_through_124 (by decide) ?_
    refine m_calld (va_runV (As := [.int (-3)]) (rest := []) ⟨hx, hb, hml, hown, hts⟩ (c_X10_failed l E M H.size y b1 b2 b3 b4 b5 b6 b7 b8 b9 b10 b11 b12 b13 b14 b15 b16 ni nf0 bd st fa (-3) g_y) (cwV 1 hts gX10_through_X10_failed rfl rfl rfl (by decide +kernel) ⟨Nat.le_of_ble_eq_true rfl, Nat.le_of_ble_eq_true rfl⟩) (m_preV hE hM g_y rfl) rfl rfl hl.1 rfl (lv_room (Nat.le_of_ble_eq_true rfl)) dX10_through_126 ⟨Nat.le_of_ble_eq_true rfl, Nat.le_of_ble_eq_true rfl⟩) hM hS hA (fun r9 M1 H locs hw hM hS => ?_)
    obtain ⟨e_r9, eM1⟩ := hw
    subst e_r9
    have g_b12_ : M1 b12 = some (mI E 8 KD) := by rw [eM1]; exact mUp_at (m_ne g_b12 g_y (by simp)) g_b12
    have g_b13_ : M1 b13 = some (mI E 8 NM) := by rw [eM1]; exact mUp_at (m_ne g_b13 g_y (by simp)) g_b13
    have g_b12 := g_b12_
    have g_b13 := g_b13_
    have g_y : M1 y = some (mO 8 [.ref b1, .ref b2, .ref b3, .ref b4, .ref b5, .int ni, .ref b6, .ref b7, .ref b8, .ref b9, .ref b10, .ref b11, .int nf0, .ref b12, .ref b13, .int bd, .int st, .int (-3), .ref b14, .ref b15, .ref b16]) := by rw [eM1]; exact mUp_self _ _ _
    refine lv_goto (tgt := 133) hx hb dX10_through_129 (by decide) ?_
    exact m_dret hx hb hr hlocks hM hS (Nat.le_refl _) (Nat.le_refl _) dX10_through_133 (by have hr : sRef kd (FP.i2d an) x := ⟨hk, c_120⟩; rw [if_pos hr, if_pos hr]; refine ⟨rfl, ?_⟩; rw [eM1])
