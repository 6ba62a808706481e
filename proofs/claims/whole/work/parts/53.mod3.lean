theorem sso_inv {ci : Nat} (h : insK ci) : (sso ci = 0 → ci = 6) ∧ (sso ci = 1 → ci = 3) ∧ (sso ci = 2 → ci = 1) ∧ (sso ci = 3 → ci = 0) ∧ (¬ sso ci = 0 → ¬ sso ci = 1 → ¬ sso ci = 2 → ¬ sso ci = 3 → ci = 4) := by
  rcases h with rfl | rfl | rfl | rfl | rfl <;> decide
def sLE (ci : Nat) (LE : Nat → UInt64) (j : Nat) (v : UInt64) : Nat → UInt64 := if ci = 0 ∨ ci = 1 then vf_upd LE j v else LE
theorem triA {M : mMem} {y p a : Nat} {Y P L : va_E} (h : y ≠ p) : mUp (mUp (mUp M p P) y Y) a L = tri M y p a Y P L := by
  unfold tri
  congr 1
  funext q
  by_cases h1 : q = y
  · subst h1; simp [mUp, h]
  · by_cases h2 : q = p
    · subst h2; simp [mUp, h1]
    · simp [mUp, h1, h2]
theorem triB {M : mMem} {y p a : Nat} {Y P L : va_E} (h : y ≠ p) (h1 : a ≠ y) (h2 : a ≠ p) (hL : M a = some L) : mUp (mUp M p P) y Y = tri M y p a Y P L := by
  rw [← triA h]
  exact (mUp_id (mUp_at h1 (mUp_at h2 hL))).symm
theorem in_X10_sample_X10 : ∀ w ∈ wsX100, w ∈ wsX10_sample := by decide +kernel
set_option maxHeartbeats 4000000 in
set_option maxRecDepth 100000 in
theorem c_X10_sample (l : Launch) (E : mEnv) (M : mMem) (sz : Nat) (y b1 b2 b3 b4 b5 b6 b7 b8 b9 b10 b11 b12 b13 b14 b15 b16 : Nat) (ni nf0 bd st fa : Int32) (T : Nat → Int32) (LN : Nat → Int32) (SZ : Nat → Int32) (SM : Nat → Int64) (SO : Nat → Int32) (KN : Nat → Int32) (PI : Nat → Int32) (ON : Nat → Int32) (PH : Nat → Int32) (LE : Nat → UInt64) (j : Nat) (hj : j < 12) (ci : Nat) (hci : insK ci) (kf : Nat → Int32) (pi on ph : Int32) (le : UInt64) (tb : Option Nat) (rw : Nat → sRw) (hSo : SO j = sso ci) (hKn : ∀ k, k < 4 → KN (4 * j + k) = kf k) (hPi : PI j = pi) (hOn : ON j = on) (hPh : PH j = ph) (hLe : ci = 0 ∨ ci = 1 → LE j = le) (hle : dL le) (hT : T j = rI tb) (hTb : mTb tb rw LN SZ SM) (n2 : b2 ≠ b10) (n6 : b6 ≠ b10) (n8 : b8 ≠ b10) (n9 : b9 ≠ b10) (g_y : M y = some (mO 8 [.ref b1, .ref b2, .ref b3, .ref b4, .ref b5, .int ni, .ref b6, .ref b7, .ref b8, .ref b9, .ref b10, .ref b11, .int nf0, .ref b12, .ref b13, .int bd, .int st, .int fa, .ref b14, .ref b15, .ref b16])) (g_b2 : M b2 = some (mI E 12 T)) (g_b3 : M b3 = some (mI E 24 LN)) (g_b4 : M b4 = some (mI E 24 SZ)) (g_b5 : M b5 = some (mJ E 960 SM)) (g_b6 : M b6 = some (mI E 12 SO)) (g_b7 : M b7 = some (mI E 48 KN)) (g_b8 : M b8 = some (mI E 12 PI)) (g_b9 : M b9 = some (mZ E 12 ON)) (g_b10 : M b10 = some (mI E 12 PH)) (g_b11 : M b11 = some (mDb E 12 LE))  : Met l yX10_sample wsX10_sample ({ frames := 2, cells := 0, slots := 0, locals := 46 }) (mPre E M sz [.ref y, .int (nI j)]) (mQd E M sz (fun r u => r = (sGive ci kf pi on ph le (tb.map rw)).2.1 ∧ u = tri M y b10 b11 (mO 8 [.ref b1, .ref b2, .ref b3, .ref b4, .ref b5, .int ni, .ref b6, .ref b7, .ref b8, .ref b9, .ref b10, .ref b11, .int nf0, .ref b12, .ref b13, .int bd, .int st, .int ((sGive ci kf pi on ph le (tb.map rw)).1), .ref b14, .ref b15, .ref b16]) (mI E 12 (upd PH j (ph + 1))) (mDb E 12 (sLE ci LE j (sGive ci kf pi on ph le (tb.map rw)).2.2)))) (0) (0) (mA M sz) := by
  refine m_met [.ref y, .int (nI j)] (by decide) rfl (Nat.le_of_ble_eq_true rfl) ?_
  intro p e s m below meth c ls H eH hx hb hr hts hown hlocks hnm hml hsz hE hM hS hA hl
  have hl : lv_has ls 6 [(0, .ref y), (1, .int (nI j))] := hl
  have g0_b11 := g_b11
  have hyp : y ≠ b10 := m_ne g_y g_b10 (by simp)
  have hay : b11 ≠ y := m_ne g_b11 g_y (by simp)
  have hap : b11 ≠ b10 := m_ne g_b11 g_b10 (by simp)
  refine lv_aload_n hx hb dX10_sample_0 rfl (lv_at hl 0 rfl) ?_
  refine m_get (ci := 8) (v := .ref b10) (C := RX10) (T := TX10) (N := 21) hx hb hts in_X10_sample_X10 hown hE hM g_y rfl 10 (by decide) (hts (.fieldLink RX10 39 "CallWays2Model" "phases" "[I") (by decide +kernel)) (fun _ h9 => h9) rfl dX10_sample_1 ?_
  refine lv_iload_n hx hb dX10_sample_4 rfl (lv_at hl 1 rfl) ?_
  refine m_iald hx hb hE hM g_b10 (vp_in_nI hj (by decide)) dX10_sample_5 ?_
  rw [show PH (nI j).toNatClampNeg = ph from by rw [nI_clamp (by omega), hPh]]
  refine lv_istore_n (lv' := [(2, .int ph), (0, .ref y), (1, .int (nI j))]) hx hb dX10_sample_6 rfl hl (by decide) rfl (fun ls hl => ?_)
  refine lv_aload_n hx hb dX10_sample_7 rfl (lv_at hl 1 rfl) ?_
  refine m_get (ci := 8) (v := .ref b10) (C := RX10) (T := TX10) (N := 21) hx hb hts in_X10_sample_X10 hown hE hM g_y rfl 10 (by decide) (hts (.fieldLink RX10 39 "CallWays2Model" "phases" "[I") (by decide +kernel)) (fun _ h9 => h9) rfl dX10_sample_8 ?_
  refine lv_iload_n hx hb dX10_sample_11 rfl (lv_at hl 2 rfl) ?_
  refine lv_iload_n hx hb dX10_sample_12 rfl (lv_at hl 0 rfl) ?_
  refine lv_iconst (v := 1) hx hb dX10_sample_13 (by decide) ?_
  refine lv_iadd hx hb dX10_sample_14 ?_
  refine m_iast hx hb hE hM hS g_b10 (vp_in_nI hj (by decide)) dX10_sample_15 (fun H locs hM hS => ?_)
  have hM : mOK E.1 (mA M sz) (mUp M b10 (mI E 12 (upd PH (nI j).toNatClampNeg (ph + 1)))) H := hM
  obtain ⟨M1, eM1⟩ : ∃ z, z = mUp M b10 (mI E 12 (upd PH (nI j).toNatClampNeg (ph + 1))) := ⟨_, rfl⟩
  rw [← eM1] at hM
  have g_y_ : M1 y = some (mO 8 [.ref b1, .ref b2, .ref b3, .ref b4, .ref b5, .int ni, .ref b6, .ref b7, .ref b8, .ref b9, .ref b10, .ref b11, .int nf0, .ref b12, .ref b13, .int bd, .int st, .int fa, .ref b14, .ref b15, .ref b16]) := by rw [eM1]; exact mUp_at (m_ne g_y g_b10 (by simp)) g_y
  have g_b2_ : M1 b2 = some (mI E 12 T) := by rw [eM1]; exact mUp_at n2 g_b2
  have g_b3_ : M1 b3 = some (mI E 24 LN) := by rw [eM1]; exact mUp_at (m_ne g_b3 g_b10 (by simp)) g_b3
  have g_b4_ : M1 b4 = some (mI E 24 SZ) := by rw [eM1]; exact mUp_at (m_ne g_b4 g_b10 (by simp)) g_b4
  have g_b5_ : M1 b5 = some (mJ E 960 SM) := by rw [eM1]; exact mUp_at (m_ne g_b5 g_b10 (by simp)) g_b5
  have g_b6_ : M1 b6 = some (mI E 12 SO) := by rw [eM1]; exact mUp_at n6 g_b6
  have g_b7_ : M1 b7 = some (mI E 48 KN) := by rw [eM1]; exact mUp_at (m_ne g_b7 g_b10 (by simp)) g_b7
  have g_b8_ : M1 b8 = some (mI E 12 PI) := by rw [eM1]; exact mUp_at n8 g_b8
  have g_b9_ : M1 b9 = some (mZ E 12 ON) := by rw [eM1]; exact mUp_at n9 g_b9
  have g_b11_ : M1 b11 = some (mDb E 12 LE) := by rw [eM1]; exact mUp_at (m_ne g_b11 g_b10 (by simp)) g_b11
  have g_y := g_y_
  have g_b2 := g_b2_
  have g_b3 := g_b3_
  have g_b4 := g_b4_
  have g_b5 := g_b5_
  have g_b6 := g_b6_
  have g_b7 := g_b7_
  have g_b8 := g_b8_
  have g_b9 := g_b9_
  have g_b11 := g_b11_
  have g_b10 : M1 b10 = some (mI E 12 (upd PH (nI j).toNatClampNeg (ph + 1))) := by rw [eM1]; exact mUp_self _ _ _
  refine lv_aload_n hx hb dX10_sample_16 rfl (lv_at hl 1 rfl) ?_
  refine lv_iconst (v := 0) hx hb dX10_sample_17 (by decide) ?_
  refine m_put (ci := 8) (v := .int 0) (ty := .int) (C := RX10) (T := TX10) (N := 21) hx hb hts in_X10_sample_X10 tyX10 tyX10_ok nmX10 hown hE hM hS g_y rfl 17 (by decide) (hts (.fieldLink RX10 112 "CallWays2Model" "failure" "I") (by decide +kernel)) (fun _ h9 => h9) rfl (by decide +kernel) rfl rfl (Nat.le_of_ble_eq_true rfl) dX10_sample_18 (fun H locs hM hS => ?_)
  have hM : mOK E.1 (mA M sz) (mUp M1 y (mO 8 [.ref b1, .ref b2, .ref b3, .ref b4, .ref b5, .int ni, .ref b6, .ref b7, .ref b8, .ref b9, .ref b10, .ref b11, .int nf0, .ref b12, .ref b13, .int bd, .int st, .int 0, .ref b14, .ref b15, .ref b16])) H := hM
  obtain ⟨M2, eM2⟩ : ∃ z, z = mUp M1 y (mO 8 [.ref b1, .ref b2, .ref b3, .ref b4, .ref b5, .int ni, .ref b6, .ref b7, .ref b8, .ref b9, .ref b10, .ref b11, .int nf0, .ref b12, .ref b13, .int bd, .int st, .int 0, .ref b14, .ref b15, .ref b16]) := ⟨_, rfl⟩
  rw [← eM2] at hM
  have g_b2_ : M2 b2 = some (mI E 12 T) := by rw [eM2]; exact mUp_at (m_ne g_b2 g_y (by simp)) g_b2
  have g_b3_ : M2 b3 = some (mI E 24 LN) := by rw [eM2]; exact mUp_at (m_ne g_b3 g_y (by simp)) g_b3
  have g_b4_ : M2 b4 = some (mI E 24 SZ) := by rw [eM2]; exact mUp_at (m_ne g_b4 g_y (by simp)) g_b4
  have g_b5_ : M2 b5 = some (mJ E 960 SM) := by rw [eM2]; exact mUp_at (m_ne g_b5 g_y (by simp)) g_b5
  have g_b6_ : M2 b6 = some (mI E 12 SO) := by rw [eM2]; exact mUp_at (m_ne g_b6 g_y (by simp)) g_b6
  have g_b7_ : M2 b7 = some (mI E 48 KN) := by rw [eM2]; exact mUp_at (m_ne g_b7 g_y (by simp)) g_b7
  have g_b8_ : M2 b8 = some (mI E 12 PI) := by rw [eM2]; exact mUp_at (m_ne g_b8 g_y (by simp)) g_b8
  have g_b9_ : M2 b9 = some (mZ E 12 ON) := by rw [eM2]; exact mUp_at (m_ne g_b9 g_y (by simp)) g_b9
  have g_b10_ : M2 b10 = some (mI E 12 (upd PH (nI j).toNatClampNeg (ph + 1))) := by rw [eM2]; exact mUp_at (m_ne g_b10 g_y (by simp)) g_b10
  have g_b11_ : M2 b11 = some (mDb E 12 LE) := by rw [eM2]; exact mUp_at (m_ne g_b11 g_y (by simp)) g_b11
  have g_b2 := g_b2_
  have g_b3 := g_b3_
  have g_b4 := g_b4_
  have g_b5 := g_b5_
  have g_b6 := g_b6_
  have g_b7 := g_b7_
  have g_b8 := g_b8_
  have g_b9 := g_b9_
  have g_b10 := g_b10_
  have g_b11 := g_b11_
  have g_y : M2 y = some (mO 8 [.ref b1, .ref b2, .ref b3, .ref b4, .ref b5, .int ni, .ref b6, .ref b7, .ref b8, .ref b9, .ref b10, .ref b11, .int nf0, .ref b12, .ref b13, .int bd, .int st, .int 0, .ref b14, .ref b15, .ref b16]) := by rw [eM2]; exact mUp_self _ _ _
  refine lv_aload_n hx hb dX10_sample_21 rfl (lv_at hl 1 rfl) ?_
  refine m_get (ci := 8) (v := .ref b6) (C := RX10) (T := TX10) (N := 21) hx hb hts in_X10_sample_X10 hown hE hM g_y rfl 6 (by decide) (hts (.fieldLink RX10 26 "CallWays2Model" "sorts" "[I") (by decide +kernel)) (fun _ h9 => h9) rfl dX10_sample_22 ?_
  refine lv_iload_n hx hb dX10_sample_25 rfl (lv_at hl 2 rfl) ?_
  refine m_iald hx hb hE hM g_b6 (vp_in_nI hj (by decide)) dX10_sample_26 ?_
  rw [show SO (nI j).toNatClampNeg = sso ci from by rw [nI_clamp (by omega), hSo]]
  refine lv_istore_n (lv' := [(3, .int (sso ci)), (2, .int ph), (0, .ref y), (1, .int (nI j))]) hx hb dX10_sample_27 rfl hl (by decide) rfl (fun ls hl => ?_)
  refine lv_iload_n hx hb dX10_sample_28 rfl (lv_at hl 0 rfl) ?_
  refine lv_if_ne (tgt := 39) hx hb dX10_sample_29 (by decide) (fun c_29 => ?_) (fun c_29 => ?_)
  · skip
    refine lv_iload_n hx hb dX10_sample_39 rfl (lv_at hl 0 rfl) ?_
    refine lv_iconst (v := 1) hx hb dX10_sample_40 (by decide) ?_
    refine lv_icmp_ne (tgt := 65) hx hb dX10_sample_41 (by decide) (fun c_41 => ?_) (fun c_41 => ?_)
    · skip
      refine lv_iload_n hx hb dX10_sample_65 rfl (lv_at hl 0 rfl) ?_
      refine lv_iconst (v := 2) hx hb dX10_sample_66 (by decide) ?_
      refine lv_icmp_ne (tgt := 76) hx hb dX10_sample_67 (by decide) (fun c_67 => ?_) (fun c_67 => ?_)
      · skip
        refine lv_iload_n hx hb dX10_sample_76 rfl (lv_at hl 0 rfl) ?_
        refine lv_iconst (v := 3) hx hb dX10_sample_77 (by decide) ?_
        refine lv_icmp_ne (tgt := 127) hx hb dX10_sample_78 (by decide) (fun c_78 => ?_) (fun c_78 => ?_)
        · skip
          have hc : ci = 4 := (sso_inv hci).2.2.2.2 c_29 c_41 c_67 c_78
          subst hc
          refine lv_aload_n hx hb dX10_sample_127 rfl (lv_at hl 2 rfl) ?_
          refine lv_iload_n hx hb dX10_sample_128 rfl (lv_at hl 3 rfl) ?_
          refine lv_iload_n hx hb dX10_sample_129 rfl (lv_at hl 1 rfl) ?_
          refine m_calld (va_runV (As := [.int (nI j), .int ph]) (rest := []) ⟨hx, hb, hml, hown, hts⟩ (c_X10_reader l E M2 H.size y b1 b2 b3 b4 b5 b6 b7 b8 b9 b10 b11 b12 b13 b14 b15 b16 ni nf0 bd st T LN SZ SM KN ON j hj ph (kf 0) on tb rw hT (hKn 0 (by decide)) hOn hTb g_y g_b2 g_b3 g_b4 g_b5 g_b7 g_b9) (cwV 2 hts gX10_sample_X10_reader rfl rfl rfl (by decide +kernel) ⟨Nat.le_of_ble_eq_true rfl, Nat.le_of_ble_eq_true rfl⟩) (m_preV hE hM g_y rfl) rfl rfl hl.1 rfl (lv_room (Nat.le_of_ble_eq_true rfl)) dX10_sample_130 ⟨Nat.le_of_ble_eq_true rfl, Nat.le_of_ble_eq_true rfl⟩) hM hS hA (fun r2 M3 H locs hw hM hS => ?_)
          obtain ⟨e_r2, eM3⟩ := hw
          subst e_r2
          exact m_dret hx hb hr hlocks hM hS (Nat.le_refl _) (Nat.le_refl _) dX10_sample_133 (by refine ⟨rfl, ?_⟩; show _ = tri M y b10 b11 (mO 8 [.ref b1, .ref b2, .ref b3, .ref b4, .ref b5, .int ni, .ref b6, .ref b7, .ref b8, .ref b9, .ref b10, .ref b11, .int nf0, .ref b12, .ref b13, .int bd, .int st, .int ((sRead (kf 0) on ph (tb.map rw)).1), .ref b14, .ref b15, .ref b16]) (mI E 12 (upd PH j (ph + 1))) (mDb E 12 LE); rw [eM3, eM2, eM1, nI_clamp (by omega)]; (try simp only [mUp_up]); exact triB hyp hay hap g0_b11)
        · skip
          have hc : ci = 0 := (sso_inv hci).2.2.2.1 c_78
          subst hc
          refine lv_iload_n hx hb dX10_sample_81 rfl (lv_at hl 1 rfl) ?_
          refine lv_aload_n hx hb dX10_sample_82 rfl (lv_at hl 2 rfl) ?_
          refine m_get (ci := 8) (v := .ref b7) (C := RX10) (T := TX10) (N := 21) hx hb hts in_X10_sample_X10 hown hE hM g_y rfl 7 (by decide) (hts (.fieldLink RX10 29 "CallWays2Model" "knobs" "[I") (by decide +kernel)) (fun _ h9 => h9) rfl dX10_sample_83 ?_
          refine lv_iconst (v := 4) hx hb dX10_sample_86 (by decide) ?_
          refine lv_iload_n hx hb dX10_sample_87 rfl (lv_at hl 3 rfl) ?_
          refine lv_imul hx hb dX10_sample_88 ?_
          refine lv_iconst (v := 2) hx hb dX10_sample_89 (by decide) ?_
          refine lv_iadd hx hb dX10_sample_90 ?_
          rw [show (4 : Int32) * nI j + 2 = nI (4 * j + 2) from k4 j 2]
          refine m_iald hx hb hE hM g_b7 (in_k4 hj (by decide)) dX10_sample_91 ?_
          rw [show KN (nI (4 * j + 2)).toNatClampNeg = kf 2 from by rw [nI_clamp (by omega)]; exact hKn 2 (by decide)]
          refine lv_icmp_ne (tgt := 102) hx hb dX10_sample_92 (by decide) (fun c_92 => ?_) (fun c_92 => ?_)
          · skip
            refine lv_aload_n hx hb dX10_sample_102 rfl (lv_at hl 2 rfl) ?_
            refine lv_iload_n hx hb dX10_sample_103 rfl (lv_at hl 3 rfl) ?_
            refine m_calld (va_runV (As := [.int (nI j)]) (rest := []) ⟨hx, hb, hml, hown, hts⟩ (c_X10_drum l E M2 H.size y b1 b2 b3 b4 b5 b6 b7 b8 b9 b10 b11 b12 b13 b14 b15 b16 ni nf0 bd st KN LE j hj (kf 1) le (hKn 1 (by decide)) (hLe (by simp)) hle g_y g_b7 g_b11) (cwV 1 hts gX10_sample_X10_drum rfl rfl rfl (by decide +kernel) ⟨Nat.le_of_ble_eq_true rfl, Nat.le_of_ble_eq_true rfl⟩) (m_preV hE hM g_y rfl) rfl rfl hl.1 rfl (lv_room (Nat.le_of_ble_eq_true rfl)) dX10_sample_104 ⟨Nat.le_of_ble_eq_true rfl, Nat.le_of_ble_eq_true rfl⟩) hM hS hA (fun r2 M4 H locs hw hM hS => ?_)
            obtain ⟨e_r2, eM4⟩ := hw
            subst e_r2
            refine lv_dstore (lv' := [(4, .double ((sDrum (kf 1) le).2.1)), (3, .int (sso 0)), (2, .int ph), (0, .ref y), (1, .int (nI j))]) hx hb dX10_sample_107 hl (by decide) rfl (fun ls hl => ?_)
            refine lv_iload_n hx hb dX10_sample_109 rfl (lv_at hl 2 rfl) ?_
            refine lv_iconst (v := 1) hx hb dX10_sample_110 (by decide) ?_
            refine lv_iand hx hb dX10_sample_111 ?_
            refine lv_if_eq (tgt := 124) hx hb dX10_sample_112 (by decide) (fun c_112 => ?_) (fun c_112 => ?_)
            · skip
              refine lv_dload hx hb dX10_sample_124 (lv_at hl 0 rfl) ?_
              exact m_dret hx hb hr hlocks hM hS (Nat.le_refl _) (Nat.le_refl _) dX10_sample_126 (by have hG : sGive 0 kf pi on ph le (tb.map rw) = ((sDrum (kf 1) le).1, (if ph &&& 1 = 0 then (sDrum (kf 1) le).2.1 else FP.dmul 13830554455654793216 (sDrum (kf 1) le).2.1), (sDrum (kf 1) le).2.2) := (by show sBell (kf 1) (kf 2) ph le = _; unfold sBell; rw [if_neg c_92]); rw [hG]; refine ⟨(if_pos c_112).symm, ?_⟩; show _ = tri M y b10 b11 (mO 8 [.ref b1, .ref b2, .ref b3, .ref b4, .ref b5, .int ni, .ref b6, .ref b7, .ref b8, .ref b9, .ref b10, .ref b11, .int nf0, .ref b12, .ref b13, .int bd, .int st, .int ((sDrum (kf 1) le).1), .ref b14, .ref b15, .ref b16]) (mI E 12 (upd PH j (ph + 1))) (mDb E 12 (vf_upd LE j (sDrum (kf 1) le).2.2)); rw [eM4, eM2, eM1, nI_clamp (by omega)]; simp only [mUp_up]; exact triA hyp)
            · skip
              refine lv_ldc2d hx hb hown (hts (.constantDouble RX10 130 (13830554455654793216)) (by decide +kernel)) dX10_sample_115 ?_
              refine lv_dload hx hb dX10_sample_118 (lv_at hl 0 rfl) ?_
              refine lv_dmul hx hb dX10_sample_120 (nn_mul fin_m1 ((dL_drum hle).1.b.fin (by decide))) ?_
              refine lv_goto (tgt := 126) hx hb dX10_sample_121 (by decide) ?_
              exact m_dret hx hb hr hlocks hM hS (Nat.le_refl _) (Nat.le_refl _) dX10_sample_126 (by have hG : sGive 0 kf pi on ph le (tb.map rw) = ((sDrum (kf 1) le).1, (if ph &&& 1 = 0 then (sDrum (kf 1) le).2.1 else FP.dmul 13830554455654793216 (sDrum (kf 1) le).2.1), (sDrum (kf 1) le).2.2) := (by show sBell (kf 1) (kf 2) ph le = _; unfold sBell; rw [if_neg c_92]); rw [hG]; refine ⟨(if_neg c_112).symm, ?_⟩; show _ = tri M y b10 b11 (mO 8 [.ref b1, .ref b2, .ref b3, .ref b4, .ref b5, .int ni, .ref b6, .ref b7, .ref b8, .ref b9, .ref b10, .ref b11, .int nf0, .ref b12, .ref b13, .int bd, .int st, .int ((sDrum (kf 1) le).1), .ref b14, .ref b15, .ref b16]) (mI E 12 (upd PH j (ph + 1))) (mDb E 12 (vf_upd LE j (sDrum (kf 1) le).2.2)); rw [eM4, eM2, eM1, nI_clamp (by omega)]; simp only [mUp_up]; exact triA hyp)
          · skip
            refine lv_aload_n hx hb dX10_sample_95 rfl (lv_at hl 2 rfl) ?_
            refine lv_bipush (v := -3) hx hb dX10_sample_96 (by decide) ?_
            refine m_calld (va_runV (As := [.int (-3)]) (rest := []) ⟨hx, hb, hml, hown, hts⟩ (c_X10_failed l E M2 H.size y b1 b2 b3 b4 b5 b6 b7 b8 b9 b10 b11 b12 b13 b14 b15 b16 ni nf0 bd st 0 (-3) g_y) (cwV 1 hts gX10_sample_X10_failed rfl rfl rfl (by decide +kernel) ⟨Nat.le_of_ble_eq_true rfl, Nat.le_of_ble_eq_true rfl⟩) (m_preV hE hM g_y rfl) rfl rfl hl.1 rfl (lv_room (Nat.le_of_ble_eq_true rfl)) dX10_sample_98 ⟨Nat.le_of_ble_eq_true rfl, Nat.le_of_ble_eq_true rfl⟩) hM hS hA (fun r9 M5 H locs hw hM hS => ?_)
            obtain ⟨e_r9, eM5⟩ := hw
            subst e_r9
            have g_b2_ : M5 b2 = some (mI E 12 T) := by rw [eM5]; exact mUp_at (m_ne g_b2 g_y (by simp)) g_b2
            have g_b3_ : M5 b3 = some (mI E 24 LN) := by rw [eM5]; exact mUp_at (m_ne g_b3 g_y (by simp)) g_b3
            have g_b4_ : M5 b4 = some (mI E 24 SZ) := by rw [eM5]; exact mUp_at (m_ne g_b4 g_y (by simp)) g_b4
            have g_b5_ : M5 b5 = some (mJ E 960 SM) := by rw [eM5]; exact mUp_at (m_ne g_b5 g_y (by simp)) g_b5
            have g_b6_ : M5 b6 = some (mI E 12 SO) := by rw [eM5]; exact mUp_at (m_ne g_b6 g_y (by simp)) g_b6
            have g_b7_ : M5 b7 = some (mI E 48 KN) := by rw [eM5]; exact mUp_at (m_ne g_b7 g_y (by simp)) g_b7
            have g_b8_ : M5 b8 = some (mI E 12 PI) := by rw [eM5]; exact mUp_at (m_ne g_b8 g_y (by simp)) g_b8
            have g_b9_ : M5 b9 = some (mZ E 12 ON) := by rw [eM5]; exact mUp_at (m_ne g_b9 g_y (by simp)) g_b9
            have g_b10_ : M5 b10 = some (mI E 12 (upd PH (nI j).toNatClampNeg (ph + 1))) := by rw [eM5]; exact mUp_at (m_ne g_b10 g_y (by simp)) g_b10
            have g_b11_ : M5 b11 = some (mDb E 12 LE) := by rw [eM5]; exact mUp_at (m_ne g_b11 g_y (by simp)) g_b11
            have g_b2 := g_b2_
            have g_b3 := g_b3_
            have g_b4 := g_b4_
            have g_b5 := g_b5_
            have g_b6 := g_b6_
            have g_b7 := g_b7_
            have g_b8 := g_b8_
            have g_b9 := g_b9_
            have g_b10 := g_b10_
            have g_b11 := g_b11_
            have g_y : M5 y = some (mO 8 [.ref b1, .ref b2, .ref b3, .ref b4, .ref b5, .int ni, .ref b6, .ref b7, .ref b8, .ref b9, .ref b10, .ref b11, .int nf0, .ref b12, .ref b13, .int bd, .int st, .int (-3), .ref b14, .ref b15, .ref b16]) := by rw [eM5]; exact mUp_self _ _ _
            exact m_dret hx hb hr hlocks hM hS (Nat.le_refl _) (Nat.le_refl _) dX10_sample_101 (by rw [show sGive 0 kf pi on ph le (tb.map rw) = (-3, FP.dconst0, le) from (by show sBell (kf 1) (kf 2) ph le = _; unfold sBell; rw [if_pos c_92])]; refine ⟨rfl, ?_⟩; show _ = tri M y b10 b11 (mO 8 [.ref b1, .ref b2, .ref b3, .ref b4, .ref b5, .int ni, .ref b6, .ref b7, .ref b8, .ref b9, .ref b10, .ref b11, .int nf0, .ref b12, .ref b13, .int bd, .int st, .int (-3), .ref b14, .ref b15, .ref b16]) (mI E 12 (upd PH j (ph + 1))) (mDb E 12 (vf_upd LE j le)); rw [vf_id (hLe (by simp))]; rw [eM5, eM2, eM1, nI_clamp (by omega)]; (try simp only [mUp_up]); exact triB hyp hay hap g0_b11)
      · skip
        have hc : ci = 1 := (sso_inv hci).2.2.1 c_67
        subst hc
        refine lv_aload_n hx hb dX10_sample_70 rfl (lv_at hl 2 rfl) ?_
        refine lv_iload_n hx hb dX10_sample_71 rfl (lv_at hl 3 rfl) ?_
        refine m_calld (va_runV (As := [.int (nI j)]) (rest := []) ⟨hx, hb, hml, hown, hts⟩ (c_X10_drum l E M2 H.size y b1 b2 b3 b4 b5 b6 b7 b8 b9 b10 b11 b12 b13 b14 b15 b16 ni nf0 bd st KN LE j hj (kf 1) le (hKn 1 (by decide)) (hLe (by simp)) hle g_y g_b7 g_b11) (cwV 1 hts gX10_sample_X10_drum rfl rfl rfl (by decide +kernel) ⟨Nat.le_of_ble_eq_true rfl, Nat.le_of_ble_eq_true rfl⟩) (m_preV hE hM g_y rfl) rfl rfl hl.1 rfl (lv_room (Nat.le_of_ble_eq_true rfl)) dX10_sample_72 ⟨Nat.le_of_ble_eq_true rfl, Nat.le_of_ble_eq_true rfl⟩) hM hS hA (fun r2 M6 H locs hw hM hS => ?_)
        obtain ⟨e_r2, eM6⟩ := hw
        subst e_r2
        exact m_dret hx hb hr hlocks hM hS (Nat.le_refl _) (Nat.le_refl _) dX10_sample_75 (by refine ⟨rfl, ?_⟩; show _ = tri M y b10 b11 (mO 8 [.ref b1, .ref b2, .ref b3, .ref b4, .ref b5, .int ni, .ref b6, .ref b7, .ref b8, .ref b9, .ref b10, .ref b11, .int nf0, .ref b12, .ref b13, .int bd, .int st, .int ((sDrum (kf 1) le).1), .ref b14, .ref b15, .ref b16]) (mI E 12 (upd PH j (ph + 1))) (mDb E 12 (vf_upd LE j (sDrum (kf 1) le).2.2)); rw [eM6, eM2, eM1, nI_clamp (by omega)]; simp only [mUp_up]; exact triA hyp)
    · skip
      have hc : ci = 3 := (sso_inv hci).2.1 c_41
      subst hc
      refine lv_ldc2d hx hb hown (hts (.constantDouble RX10 125 (4611686018427387904)) (by decide +kernel)) dX10_sample_44 ?_
      refine lv_aload_n hx hb dX10_sample_47 rfl (lv_at hl 2 rfl) ?_
      refine lv_iload_n hx hb dX10_sample_48 rfl (lv_at hl 3 rfl) ?_
      refine lv_iload_n hx hb dX10_sample_49 rfl (lv_at hl 1 rfl) ?_
      refine m_calld (va_runV (As := [.int (nI j), .int ph]) (rest := [.double 4611686018427387904]) ⟨hx, hb, hml, hown, hts⟩ (c_X10_tone l E M2 H.size y b1 b2 b3 b4 b5 b6 b7 b8 b9 b10 b11 b12 b13 b14 b15 b16 ni nf0 bd st 0 PI ON j hj ph g_y g_b8 g_b9) (cwV 2 hts gX10_sample_X10_tone rfl rfl rfl (by decide +kernel) ⟨Nat.le_of_ble_eq_true rfl, Nat.le_of_ble_eq_true rfl⟩) (m_preV hE hM g_y rfl) rfl rfl hl.1 rfl (lv_room (Nat.le_of_ble_eq_true rfl)) dX10_sample_50 ⟨Nat.le_of_ble_eq_true rfl, Nat.le_of_ble_eq_true rfl⟩) hM hS hA (fun r1 u H locs hw hM hS => ?_)
      obtain ⟨e_r1, eu⟩ := hw
      rw [eu] at hM
      rw [hPi, hOn] at e_r1
      subst e_r1
      refine lv_dmul hx hb dX10_sample_53 (nn_mul fin_2 ((dB_tone pi on ph).fin (by decide))) ?_
      refine lv_aload_n hx hb dX10_sample_54 rfl (lv_at hl 2 rfl) ?_
      refine m_get (ci := 8) (v := .ref b7) (C := RX10) (T := TX10) (N := 21) hx hb hts in_X10_sample_X10 hown hE hM g_y rfl 7 (by decide) (hts (.fieldLink RX10 29 "CallWays2Model" "knobs" "[I") (by decide +kernel)) (fun _ h9 => h9) rfl dX10_sample_55 ?_
      refine lv_iconst (v := 4) hx hb dX10_sample_58 (by decide) ?_
      refine lv_iload_n hx hb dX10_sample_59 rfl (lv_at hl 3 rfl) ?_
      refine lv_imul hx hb dX10_sample_60 ?_
      rw [show (4 : Int32) * nI j = nI (4 * j) from k4z j]
      refine m_iald hx hb hE hM g_b7 (in_k4 (k := 0) hj (by decide)) dX10_sample_61 ?_
      rw [show KN (nI (4 * j)).toNatClampNeg = kf 0 from by rw [nI_clamp (by omega)]; exact hKn 0 (by decide)]
      refine lv_i2d hx hb dX10_sample_62 ?_
      refine lv_dadd hx hb dX10_sample_63 (nn_add ((dB_mul (K := 1025) (L := 1056) (by unfold dB; decide) (dB_tone pi on ph) (by decide) (by decide)).fin (by decide)) (fin_i2d _)) ?_
      exact m_dret hx hb hr hlocks hM hS (Nat.le_refl _) (Nat.le_refl _) dX10_sample_64 (by refine ⟨rfl, ?_⟩; show _ = tri M y b10 b11 (mO 8 [.ref b1, .ref b2, .ref b3, .ref b4, .ref b5, .int ni, .ref b6, .ref b7, .ref b8, .ref b9, .ref b10, .ref b11, .int nf0, .ref b12, .ref b13, .int bd, .int st, .int 0, .ref b14, .ref b15, .ref b16]) (mI E 12 (upd PH j (ph + 1))) (mDb E 12 LE); rw [eM2, eM1, nI_clamp (by omega)]; (try simp only [mUp_up]); exact triB hyp hay hap g0_b11)
  · skip
    have hc : ci = 6 := (sso_inv hci).1 c_29
    subst hc
    refine lv_aload_n hx hb dX10_sample_32 rfl (lv_at hl 2 rfl) ?_
    refine lv_iload_n hx hb dX10_sample_33 rfl (lv_at hl 3 rfl) ?_
    refine lv_iload_n hx hb dX10_sample_34 rfl (lv_at hl 1 rfl) ?_
    refine m_calld (va_runV (As := [.int (nI j), .int ph]) (rest := []) ⟨hx, hb, hml, hown, hts⟩ (c_X10_tone l E M2 H.size y b1 b2 b3 b4 b5 b6 b7 b8 b9 b10 b11 b12 b13 b14 b15 b16 ni nf0 bd st 0 PI ON j hj ph g_y g_b8 g_b9) (cwV 2 hts gX10_sample_X10_tone rfl rfl rfl (by decide +kernel) ⟨Nat.le_of_ble_eq_true rfl, Nat.le_of_ble_eq_true rfl⟩) (m_preV hE hM g_y rfl) rfl rfl hl.1 rfl (lv_room (Nat.le_of_ble_eq_true rfl)) dX10_sample_35 ⟨Nat.le_of_ble_eq_true rfl, Nat.le_of_ble_eq_true rfl⟩) hM hS hA (fun r1 u H locs hw hM hS => ?_)
    obtain ⟨e_r1, eu⟩ := hw
    rw [eu] at hM
    rw [hPi, hOn] at e_r1
    subst e_r1
    exact m_dret hx hb hr hlocks hM hS (Nat.le_refl _) (Nat.le_refl _) dX10_sample_38 (by refine ⟨rfl, ?_⟩; show _ = tri M y b10 b11 (mO 8 [.ref b1, .ref b2, .ref b3, .ref b4, .ref b5, .int ni, .ref b6, .ref b7, .ref b8, .ref b9, .ref b10, .ref b11, .int nf0, .ref b12, .ref b13, .int bd, .int st, .int 0, .ref b14, .ref b15, .ref b16]) (mI E 12 (upd PH j (ph + 1))) (mDb E 12 LE); rw [eM2, eM1, nI_clamp (by omega)]; (try simp only [mUp_up]); exact triB hyp hay hap g0_b11)
