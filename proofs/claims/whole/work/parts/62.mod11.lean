theorem in_X10_play_X10 : ∀ w ∈ wsX100, w ∈ wsX10_play := by decide +kernel
set_option maxHeartbeats 4000000 in
set_option maxRecDepth 100000 in
theorem c_X10_play (l : Launch) (E : mEnv) (M : mMem) (sz : Nat) (y b1 b2 b3 b4 b5 b6 b7 b8 b9 b10 b11 b12 b13 b14 b15 b16 nn nf : Nat) (ins : Nat → sIn) (fn : Nat → Int32 × Int32) (bk : Nat → Option Nat) (rw : Nat → sRw) (bd st c2 c3 c4 : Int32) (hV : Inv (nn, ins, nf, fn, bk, rw, bd, st, c2, c3, c4)) (hC : mR E M y b1 b2 b3 b4 b5 b6 b7 b8 b9 b10 b11 b12 b13 b14 b15 b16 (nn, ins, nf, fn, bk, rw, bd, st, c2, c3, c4)) (hnd : [y, b1, b2, b3, b4, b5, b6, b7, b8, b9, b10, b11, b12, b13, b14, b15, b16].Nodup) (i wy f0 b fr n : Int32)    : Met l yX10_play wsX10_play ({ frames := 4, cells := 0, slots := 0, locals := 97 }) (mPre E M sz [.ref y, .int i, .int wy, .int f0, .int b, .int fr, .int n]) (mQi E M sz (fun r u => r = aPlay (nn, ins, nf, fn, bk, rw, bd, st, c2, c3, c4) i wy f0 b fr n ∧ mR E u y b1 b2 b3 b4 b5 b6 b7 b8 b9 b10 b11 b12 b13 b14 b15 b16 (nPlay (nn, ins, nf, fn, bk, rw, bd, st, c2, c3, c4) i wy f0 b fr n) ∧ kept (nol y b1 b2 b3 b4 b5 b6 b7 b8 b9 b10 b11 b12 b13 b14 b15 b16) M u)) (0) (0) (mA M sz) := by
  refine m_met [.ref y, .int i, .int wy, .int f0, .int b, .int fr, .int n] (by decide) rfl (Nat.le_of_ble_eq_true rfl) ?_
  intro p e s m below meth c ls H eH hx hb hr hts hown hlocks hnm hml hsz hE hM hS hA hl
  have hl : lv_has ls 10 [(0, .ref y), (1, .int i), (2, .int wy), (3, .int f0), (4, .int b), (5, .int fr), (6, .int n)] := hl
  have hC0 := hC
  obtain ⟨fa, B, T, LN, SZ, SM, SO, KN, PI, ON, PH, LE, KD, NM, CT, CM, MV, ⟨g_y, g_b1, g_b2, g_b3, g_b4, g_b5, g_b6, g_b7, g_b8, g_b9, g_b10, g_b11, g_b12, g_b13, g_b14, g_b15, g_b16⟩, hB, hT, hR, hN, hF, hc2, hc3, hc4⟩ := hC
  have hiK := hV.insK
  have h24t := hV.tb24
  have h40 := hV.n40
  obtain ⟨hnn, hnf, hvI, hvD, hv24, hvR, hvF⟩ := id hV
  have h24 : ∀ k, k < 10 → ∀ r, bk k = some r → r < 24 := fun k hk r hr => hv24 r (Or.inl ⟨k, hk, hr⟩)
  have hk : kept (nol y b1 b2 b3 b4 b5 b6 b7 b8 b9 b10 b11 b12 b13 b14 b15 b16) M M := kept.rf
  have g0_y := g_y
  have g0_b1 := g_b1
  have g0_b2 := g_b2
  have g0_b3 := g_b3
  have g0_b4 := g_b4
  have g0_b5 := g_b5
  have g0_b6 := g_b6
  have g0_b7 := g_b7
  have g0_b8 := g_b8
  have g0_b9 := g_b9
  have g0_b10 := g_b10
  have g0_b11 := g_b11
  have g0_b12 := g_b12
  have g0_b13 := g_b13
  have g0_b14 := g_b14
  have g0_b15 := g_b15
  have g0_b16 := g_b16
  refine lv_aload_n hx hb dX10_play_0 rfl (lv_at hl 0 rfl) ?_
  refine lv_iload_n hx hb dX10_play_1 rfl (lv_at hl 1 rfl) ?_
  refine m_calli (va_runV (As := [.int i]) (rest := []) ⟨hx, hb, hml, hown, hts⟩ (c_X10_isInst l E M H.size y b1 b2 b3 b4 b5 b6 b7 b8 b9 b10 b11 b12 b13 b14 b15 b16 (nI nf) bd st fa nn hnn i g_y) (cwV 1 hts gX10_play_X10_isInstrument rfl rfl rfl (by decide +kernel) ⟨Nat.le_of_ble_eq_true rfl, Nat.le_of_ble_eq_true rfl⟩) (m_preV hE hM g_y rfl) rfl rfl hl.1 rfl (lv_room (Nat.le_of_ble_eq_true rfl)) dX10_play_2 ⟨Nat.le_of_ble_eq_true rfl, Nat.le_of_ble_eq_true rfl⟩) hM hS hA (fun r0 u H locs hw hM hS => ?_)
  obtain ⟨e_r0, eu⟩ := hw
  rw [eu] at hM
  subst e_r0
  refine lv_if_eq (tgt := 47) hx hb dX10_play_5 (by decide) (fun c_5 => ?_) (fun c_5 => ?_)
  · skip
    rw [bI_eq] at c_5
    have hz : ¬ (vPl nn nf i wy f0 b) := na1 c_5
    refine lv_aload_n hx hb dX10_play_47 rfl (lv_at hl 0 rfl) ?_
    refine lv_iconst (v := -1) hx hb dX10_play_48 (by decide) ?_
    refine m_calli (va_runV (As := [.int (-1)]) (rest := []) ⟨hx, hb, hml, hown, hts⟩ (c_X10_says l E M H.size y b1 b2 b3 b4 b5 b6 b7 b8 b9 b10 b11 b12 b13 b14 b15 b16 (nI nn) (nI nf) bd st fa (-1 : Int32) g_y) (cwV 1 hts gX10_play_X10_says rfl rfl rfl (by decide +kernel) ⟨Nat.le_of_ble_eq_true rfl, Nat.le_of_ble_eq_true rfl⟩) (m_preV hE hM g_y rfl) rfl rfl hl.1 rfl (lv_room (Nat.le_of_ble_eq_true rfl)) dX10_play_49 ⟨Nat.le_of_ble_eq_true rfl, Nat.le_of_ble_eq_true rfl⟩) hM hS hA (fun r2 M1 H locs hw hM hS => ?_)
    obtain ⟨e_r2, eM1⟩ := hw
    subst e_r2
    have g_b1_ : M1 b1 = some (mI E 10 B) := by rw [eM1]; exact mUp_at (nd_ne hnd 1 0 rfl rfl (by decide)) g_b1
    have g_b2_ : M1 b2 = some (mI E 12 T) := by rw [eM1]; exact mUp_at (nd_ne hnd 2 0 rfl rfl (by decide)) g_b2
    have g_b3_ : M1 b3 = some (mI E 24 LN) := by rw [eM1]; exact mUp_at (nd_ne hnd 3 0 rfl rfl (by decide)) g_b3
    have g_b4_ : M1 b4 = some (mI E 24 SZ) := by rw [eM1]; exact mUp_at (nd_ne hnd 4 0 rfl rfl (by decide)) g_b4
    have g_b5_ : M1 b5 = some (mJ E 960 SM) := by rw [eM1]; exact mUp_at (nd_ne hnd 5 0 rfl rfl (by decide)) g_b5
    have g_b6_ : M1 b6 = some (mI E 12 SO) := by rw [eM1]; exact mUp_at (nd_ne hnd 6 0 rfl rfl (by decide)) g_b6
    have g_b7_ : M1 b7 = some (mI E 48 KN) := by rw [eM1]; exact mUp_at (nd_ne hnd 7 0 rfl rfl (by decide)) g_b7
    have g_b8_ : M1 b8 = some (mI E 12 PI) := by rw [eM1]; exact mUp_at (nd_ne hnd 8 0 rfl rfl (by decide)) g_b8
    have g_b9_ : M1 b9 = some (mZ E 12 ON) := by rw [eM1]; exact mUp_at (nd_ne hnd 9 0 rfl rfl (by decide)) g_b9
    have g_b10_ : M1 b10 = some (mI E 12 PH) := by rw [eM1]; exact mUp_at (nd_ne hnd 10 0 rfl rfl (by decide)) g_b10
    have g_b11_ : M1 b11 = some (mDb E 12 LE) := by rw [eM1]; exact mUp_at (nd_ne hnd 11 0 rfl rfl (by decide)) g_b11
    have g_b12_ : M1 b12 = some (mI E 8 KD) := by rw [eM1]; exact mUp_at (nd_ne hnd 12 0 rfl rfl (by decide)) g_b12
    have g_b13_ : M1 b13 = some (mI E 8 NM) := by rw [eM1]; exact mUp_at (nd_ne hnd 13 0 rfl rfl (by decide)) g_b13
    have g_b14_ : M1 b14 = some (mI E 3 CT) := by rw [eM1]; exact mUp_at (nd_ne hnd 14 0 rfl rfl (by decide)) g_b14
    have g_b15_ : M1 b15 = some (mDb E 40 CM) := by rw [eM1]; exact mUp_at (nd_ne hnd 15 0 rfl rfl (by decide)) g_b15
    have g_b16_ : M1 b16 = some (mJ E 40 MV) := by rw [eM1]; exact mUp_at (nd_ne hnd 16 0 rfl rfl (by decide)) g_b16
    have g_b1 := g_b1_
    have g_b2 := g_b2_
    have g_b3 := g_b3_
    have g_b4 := g_b4_
    have g_b5 := g_b5_
    have g_b6 := g_b6_
    have g_b7 := g_b7_
    have g_b8 := g_b8_
    have g_b9 := g_b9_
    have g_b10 := g_b10_
    have g_b11 := g_b11_
    have g_b12 := g_b12_
    have g_b13 := g_b13_
    have g_b14 := g_b14_
    have g_b15 := g_b15_
    have g_b16 := g_b16_
    have g_y : M1 y = some (mO 8 [.ref b1, .ref b2, .ref b3, .ref b4, .ref b5, .int (nI nn), .ref b6, .ref b7, .ref b8, .ref b9, .ref b10, .ref b11, .int (nI nf), .ref b12, .ref b13, .int bd, .int (if (-1 : Int32) < 0 then (-1 : Int32) else 0), .int fa, .ref b14, .ref b15, .ref b16]) := by rw [eM1]; exact mUp_self _ _ _
    have hk : kept (nol y b1 b2 b3 b4 b5 b6 b7 b8 b9 b10 b11 b12 b13 b14 b15 b16) M M1 := (by rw [eM1]; exact hk.up (nol_in 0 rfl))
    rw [if_pos (show (-1 : Int32) < 0 by decide)] at g_y
    exact m_iret hx hb hr hlocks hM hS (Nat.le_refl _) (Nat.le_refl _) dX10_play_52 (by refine ⟨(if_neg hz).symm, ?_, hk⟩; show mR E _ y b1 b2 b3 b4 b5 b6 b7 b8 b9 b10 b11 b12 b13 b14 b15 b16 (if vPl nn nf i wy f0 b then _ else _); rw [if_neg hz]; exact ⟨_, _, _, _, _, _, _, _, _, _, _, _, _, _, _, _, _, ⟨g_y, g_b1, g_b2, g_b3, g_b4, g_b5, g_b6, g_b7, g_b8, g_b9, g_b10, g_b11, g_b12, g_b13, g_b14, g_b15, g_b16⟩, hB, hT, hR, hN, hF, hc2, hc3, hc4⟩)
  · skip
    have c5 := c_5
    rw [bI_ne] at c5
    refine lv_iload_n hx hb dX10_play_8 rfl (lv_at hl 2 rfl) ?_
    refine lv_iconst (v := 0) hx hb dX10_play_9 (by decide) ?_
    refine lv_iconst (v := 2) hx hb dX10_play_10 (by decide) ?_
    refine m_calli (va_runS (As := [.int wy, .int 0, .int 2]) (rest := []) ⟨hx, hb, hml, hown, hts⟩ (c_X10_in l E M H.size wy 0 2) (va_cwS 3 hts gX10_play_X10_in rfl rfl rfl (by decide +kernel) ⟨Nat.le_of_ble_eq_true rfl, Nat.le_of_ble_eq_true rfl⟩) (m_preS hE hM) rfl rfl hl.1 rfl (lv_room (Nat.le_of_ble_eq_true rfl)) dX10_play_11 ⟨Nat.le_of_ble_eq_true rfl, Nat.le_of_ble_eq_true rfl⟩) hM hS hA (fun r1 u H locs hw hM hS => ?_)
    obtain ⟨e_r1, eu⟩ := hw
    rw [eu] at hM
    rw [bI_congr (in_2)] at e_r1
    subst e_r1
    refine lv_if_eq (tgt := 47) hx hb dX10_play_14 (by decide) (fun c_14 => ?_) (fun c_14 => ?_)
    · skip
      rw [bI_eq] at c_14
      have hz : ¬ (vPl nn nf i wy f0 b) := fun q => c_14 (vWy_in q.2.1)
      refine lv_aload_n hx hb dX10_play_47 rfl (lv_at hl 0 rfl) ?_
      refine lv_iconst (v := -1) hx hb dX10_play_48 (by decide) ?_
      refine m_calli (va_runV (As := [.int (-1)]) (rest := []) ⟨hx, hb, hml, hown, hts⟩ (c_X10_says l E M H.size y b1 b2 b3 b4 b5 b6 b7 b8 b9 b10 b11 b12 b13 b14 b15 b16 (nI nn) (nI nf) bd st fa (-1 : Int32) g_y) (cwV 1 hts gX10_play_X10_says rfl rfl rfl (by decide +kernel) ⟨Nat.le_of_ble_eq_true rfl, Nat.le_of_ble_eq_true rfl⟩) (m_preV hE hM g_y rfl) rfl rfl hl.1 rfl (lv_room (Nat.le_of_ble_eq_true rfl)) dX10_play_49 ⟨Nat.le_of_ble_eq_true rfl, Nat.le_of_ble_eq_true rfl⟩) hM hS hA (fun r2 M2 H locs hw hM hS => ?_)
      obtain ⟨e_r2, eM2⟩ := hw
      subst e_r2
      have g_b1_ : M2 b1 = some (mI E 10 B) := by rw [eM2]; exact mUp_at (nd_ne hnd 1 0 rfl rfl (by decide)) g_b1
      have g_b2_ : M2 b2 = some (mI E 12 T) := by rw [eM2]; exact mUp_at (nd_ne hnd 2 0 rfl rfl (by decide)) g_b2
      have g_b3_ : M2 b3 = some (mI E 24 LN) := by rw [eM2]; exact mUp_at (nd_ne hnd 3 0 rfl rfl (by decide)) g_b3
      have g_b4_ : M2 b4 = some (mI E 24 SZ) := by rw [eM2]; exact mUp_at (nd_ne hnd 4 0 rfl rfl (by decide)) g_b4
      have g_b5_ : M2 b5 = some (mJ E 960 SM) := by rw [eM2]; exact mUp_at (nd_ne hnd 5 0 rfl rfl (by decide)) g_b5
      have g_b6_ : M2 b6 = some (mI E 12 SO) := by rw [eM2]; exact mUp_at (nd_ne hnd 6 0 rfl rfl (by decide)) g_b6
      have g_b7_ : M2 b7 = some (mI E 48 KN) := by rw [eM2]; exact mUp_at (nd_ne hnd 7 0 rfl rfl (by decide)) g_b7
      have g_b8_ : M2 b8 = some (mI E 12 PI) := by rw [eM2]; exact mUp_at (nd_ne hnd 8 0 rfl rfl (by decide)) g_b8
      have g_b9_ : M2 b9 = some (mZ E 12 ON) := by rw [eM2]; exact mUp_at (nd_ne hnd 9 0 rfl rfl (by decide)) g_b9
      have g_b10_ : M2 b10 = some (mI E 12 PH) := by rw [eM2]; exact mUp_at (nd_ne hnd 10 0 rfl rfl (by decide)) g_b10
      have g_b11_ : M2 b11 = some (mDb E 12 LE) := by rw [eM2]; exact mUp_at (nd_ne hnd 11 0 rfl rfl (by decide)) g_b11
      have g_b12_ : M2 b12 = some (mI E 8 KD) := by rw [eM2]; exact mUp_at (nd_ne hnd 12 0 rfl rfl (by decide)) g_b12
      have g_b13_ : M2 b13 = some (mI E 8 NM) := by rw [eM2]; exact mUp_at (nd_ne hnd 13 0 rfl rfl (by decide)) g_b13
      have g_b14_ : M2 b14 = some (mI E 3 CT) := by rw [eM2]; exact mUp_at (nd_ne hnd 14 0 rfl rfl (by decide)) g_b14
      have g_b15_ : M2 b15 = some (mDb E 40 CM) := by rw [eM2]; exact mUp_at (nd_ne hnd 15 0 rfl rfl (by decide)) g_b15
      have g_b16_ : M2 b16 = some (mJ E 40 MV) := by rw [eM2]; exact mUp_at (nd_ne hnd 16 0 rfl rfl (by decide)) g_b16
      have g_b1 := g_b1_
      have g_b2 := g_b2_
      have g_b3 := g_b3_
      have g_b4 := g_b4_
      have g_b5 := g_b5_
      have g_b6 := g_b6_
      have g_b7 := g_b7_
      have g_b8 := g_b8_
      have g_b9 := g_b9_
      have g_b10 := g_b10_
      have g_b11 := g_b11_
      have g_b12 := g_b12_
      have g_b13 := g_b13_
      have g_b14 := g_b14_
      have g_b15 := g_b15_
      have g_b16 := g_b16_
      have g_y : M2 y = some (mO 8 [.ref b1, .ref b2, .ref b3, .ref b4, .ref b5, .int (nI nn), .ref b6, .ref b7, .ref b8, .ref b9, .ref b10, .ref b11, .int (nI nf), .ref b12, .ref b13, .int bd, .int (if (-1 : Int32) < 0 then (-1 : Int32) else 0), .int fa, .ref b14, .ref b15, .ref b16]) := by rw [eM2]; exact mUp_self _ _ _
      have hk : kept (nol y b1 b2 b3 b4 b5 b6 b7 b8 b9 b10 b11 b12 b13 b14 b15 b16) M M2 := (by rw [eM2]; exact hk.up (nol_in 0 rfl))
      rw [if_pos (show (-1 : Int32) < 0 by decide)] at g_y
      exact m_iret hx hb hr hlocks hM hS (Nat.le_refl _) (Nat.le_refl _) dX10_play_52 (by refine ⟨(if_neg hz).symm, ?_, hk⟩; show mR E _ y b1 b2 b3 b4 b5 b6 b7 b8 b9 b10 b11 b12 b13 b14 b15 b16 (if vPl nn nf i wy f0 b then _ else _); rw [if_neg hz]; exact ⟨_, _, _, _, _, _, _, _, _, _, _, _, _, _, _, _, _, ⟨g_y, g_b1, g_b2, g_b3, g_b4, g_b5, g_b6, g_b7, g_b8, g_b9, g_b10, g_b11, g_b12, g_b13, g_b14, g_b15, g_b16⟩, hB, hT, hR, hN, hF, hc2, hc3, hc4⟩)
    · skip
      rw [bI_ne] at c_14
      refine lv_iload hx hb dX10_play_17 (lv_at hl 4 rfl) ?_
      refine lv_iconst (v := 0) hx hb dX10_play_19 (by decide) ?_
      refine lv_bipush (v := 9) hx hb dX10_play_20 (by decide) ?_
      refine m_calli (va_runS (As := [.int b, .int 0, .int 9]) (rest := []) ⟨hx, hb, hml, hown, hts⟩ (c_X10_in l E M H.size b 0 9) (va_cwS 3 hts gX10_play_X10_in rfl rfl rfl (by decide +kernel) ⟨Nat.le_of_ble_eq_true rfl, Nat.le_of_ble_eq_true rfl⟩) (m_preS hE hM) rfl rfl hl.1 rfl (lv_room (Nat.le_of_ble_eq_true rfl)) dX10_play_22 ⟨Nat.le_of_ble_eq_true rfl, Nat.le_of_ble_eq_true rfl⟩) hM hS hA (fun r2 u H locs hw hM hS => ?_)
      obtain ⟨e_r2, eu⟩ := hw
      rw [eu] at hM
      rw [bI_congr (in_9)] at e_r2
      subst e_r2
      refine lv_if_eq (tgt := 47) hx hb dX10_play_25 (by decide) (fun c_25 => ?_) (fun c_25 => ?_)
      · skip
        rw [bI_eq] at c_25
        have hz : ¬ (vPl nn nf i wy f0 b) := na2 (na2 c_25)
        refine lv_aload_n hx hb dX10_play_47 rfl (lv_at hl 0 rfl) ?_
        refine lv_iconst (v := -1) hx hb dX10_play_48 (by decide) ?_
        refine m_calli (va_runV (As := [.int (-1)]) (rest := []) ⟨hx, hb, hml, hown, hts⟩ (c_X10_says l E M H.size y b1 b2 b3 b4 b5 b6 b7 b8 b9 b10 b11 b12 b13 b14 b15 b16 (nI nn) (nI nf) bd st fa (-1 : Int32) g_y) (cwV 1 hts gX10_play_X10_says rfl rfl rfl (by decide +kernel) ⟨Nat.le_of_ble_eq_true rfl, Nat.le_of_ble_eq_true rfl⟩) (m_preV hE hM g_y rfl) rfl rfl hl.1 rfl (lv_room (Nat.le_of_ble_eq_true rfl)) dX10_play_49 ⟨Nat.le_of_ble_eq_true rfl, Nat.le_of_ble_eq_true rfl⟩) hM hS hA (fun r2 M3 H locs hw hM hS => ?_)
        obtain ⟨e_r2, eM3⟩ := hw
        subst e_r2
        have g_b1_ : M3 b1 = some (mI E 10 B) := by rw [eM3]; exact mUp_at (nd_ne hnd 1 0 rfl rfl (by decide)) g_b1
        have g_b2_ : M3 b2 = some (mI E 12 T) := by rw [eM3]; exact mUp_at (nd_ne hnd 2 0 rfl rfl (by decide)) g_b2
        have g_b3_ : M3 b3 = some (mI E 24 LN) := by rw [eM3]; exact mUp_at (nd_ne hnd 3 0 rfl rfl (by decide)) g_b3
        have g_b4_ : M3 b4 = some (mI E 24 SZ) := by rw [eM3]; exact mUp_at (nd_ne hnd 4 0 rfl rfl (by decide)) g_b4
        have g_b5_ : M3 b5 = some (mJ E 960 SM) := by rw [eM3]; exact mUp_at (nd_ne hnd 5 0 rfl rfl (by decide)) g_b5
        have g_b6_ : M3 b6 = some (mI E 12 SO) := by rw [eM3]; exact mUp_at (nd_ne hnd 6 0 rfl rfl (by decide)) g_b6
        have g_b7_ : M3 b7 = some (mI E 48 KN) := by rw [eM3]; exact mUp_at (nd_ne hnd 7 0 rfl rfl (by decide)) g_b7
        have g_b8_ : M3 b8 = some (mI E 12 PI) := by rw [eM3]; exact mUp_at (nd_ne hnd 8 0 rfl rfl (by decide)) g_b8
        have g_b9_ : M3 b9 = some (mZ E 12 ON) := by rw [eM3]; exact mUp_at (nd_ne hnd 9 0 rfl rfl (by decide)) g_b9
        have g_b10_ : M3 b10 = some (mI E 12 PH) := by rw [eM3]; exact mUp_at (nd_ne hnd 10 0 rfl rfl (by decide)) g_b10
        have g_b11_ : M3 b11 = some (mDb E 12 LE) := by rw [eM3]; exact mUp_at (nd_ne hnd 11 0 rfl rfl (by decide)) g_b11
        have g_b12_ : M3 b12 = some (mI E 8 KD) := by rw [eM3]; exact mUp_at (nd_ne hnd 12 0 rfl rfl (by decide)) g_b12
        have g_b13_ : M3 b13 = some (mI E 8 NM) := by rw [eM3]; exact mUp_at (nd_ne hnd 13 0 rfl rfl (by decide)) g_b13
        have g_b14_ : M3 b14 = some (mI E 3 CT) := by rw [eM3]; exact mUp_at (nd_ne hnd 14 0 rfl rfl (by decide)) g_b14
        have g_b15_ : M3 b15 = some (mDb E 40 CM) := by rw [eM3]; exact mUp_at (nd_ne hnd 15 0 rfl rfl (by decide)) g_b15
        have g_b16_ : M3 b16 = some (mJ E 40 MV) := by rw [eM3]; exact mUp_at (nd_ne hnd 16 0 rfl rfl (by decide)) g_b16
        have g_b1 := g_b1_
        have g_b2 := g_b2_
        have g_b3 := g_b3_
        have g_b4 := g_b4_
        have g_b5 := g_b5_
        have g_b6 := g_b6_
        have g_b7 := g_b7_
        have g_b8 := g_b8_
        have g_b9 := g_b9_
        have g_b10 := g_b10_
        have g_b11 := g_b11_
        have g_b12 := g_b12_
        have g_b13 := g_b13_
        have g_b14 := g_b14_
        have g_b15 := g_b15_
        have g_b16 := g_b16_
        have g_y : M3 y = some (mO 8 [.ref b1, .ref b2, .ref b3, .ref b4, .ref b5, .int (nI nn), .ref b6, .ref b7, .ref b8, .ref b9, .ref b10, .ref b11, .int (nI nf), .ref b12, .ref b13, .int bd, .int (if (-1 : Int32) < 0 then (-1 : Int32) else 0), .int fa, .ref b14, .ref b15, .ref b16]) := by rw [eM3]; exact mUp_self _ _ _
        have hk : kept (nol y b1 b2 b3 b4 b5 b6 b7 b8 b9 b10 b11 b12 b13 b14 b15 b16) M M3 := (by rw [eM3]; exact hk.up (nol_in 0 rfl))
        rw [if_pos (show (-1 : Int32) < 0 by decide)] at g_y
        exact m_iret hx hb hr hlocks hM hS (Nat.le_refl _) (Nat.le_refl _) dX10_play_52 (by refine ⟨(if_neg hz).symm, ?_, hk⟩; show mR E _ y b1 b2 b3 b4 b5 b6 b7 b8 b9 b10 b11 b12 b13 b14 b15 b16 (if vPl nn nf i wy f0 b then _ else _); rw [if_neg hz]; exact ⟨_, _, _, _, _, _, _, _, _, _, _, _, _, _, _, _, _, ⟨g_y, g_b1, g_b2, g_b3, g_b4, g_b5, g_b6, g_b7, g_b8, g_b9, g_b10, g_b11, g_b12, g_b13, g_b14, g_b15, g_b16⟩, hB, hT, hR, hN, hF, hc2, hc3, hc4⟩)
      · skip
        rw [bI_ne] at c_25
        obtain ⟨jb, hjb, hbj, hjbc⟩ := vB_ix c_25
        have hbin : vp_in b 10 := (by rw [hbj]; exact vp_in_nI (by omega) (by decide))
        refine lv_iload_n hx hb dX10_play_28 rfl (lv_at hl 2 rfl) ?_
        refine lv_iconst (v := 2) hx hb dX10_play_29 (by decide) ?_
        refine lv_icmp_ne (tgt := 53) hx hb dX10_play_30 (by decide) (fun c_30 => ?_) (fun c_30 => ?_)
        · skip
          have hw2 : ¬ wy = 2 := c_30
          have hvp : vPl nn nf i wy f0 b := ⟨c5, (c_14.imp id (fun z => z.elim Or.inl (fun z => absurd z hw2))), c_25⟩
          rw [bI_ne] at c_5
          obtain ⟨j, hj, hij, hjc⟩ := vI_ix c_5 hnn
          subst hij
          rcases hins : ins j with ⟨ci, kf, pi, on, ph, le, tb⟩
          obtain ⟨hSo, hKn, hPi, hOn, hPh, hLe⟩ := hN j (by omega) _ _ _ _ _ _ _ hins
          obtain ⟨hci, hle, hon⟩ := hvI j hj _ _ _ _ _ _ _ hins
          have htbj : tbs ins j = tb := (by show (ins j).2.2.2.2.2.2 = tb; rw [hins])
          have hTb := mTb_of hv24 hvR hR hj (tb := tb) (by rw [hins])
          have hto := tbOK_of hvR hj (tb := tb) (by rw [hins])
          have hgv : gvAt ins rw j = sGive ci kf pi on ph le (tb.map rw) := (by unfold gvAt; rw [hins])
          refine lv_aload_n hx hb dX10_play_53 rfl (lv_at hl 0 rfl) ?_
          refine m_get (ci := 8) (v := .ref b1) (C := RX10) (T := TX10) (N := 21) hx hb hts in_X10_play_X10 hown hE hM g_y rfl 0 (by decide) (hts (.fieldLink RX10 7 "CallWays2Model" "blocks" "[I") (by decide +kernel)) (fun _ h9 => h9) rfl dX10_play_54 ?_
          refine lv_iload hx hb dX10_play_57 (lv_at hl 4 rfl) ?_
          refine m_iald hx hb hE hM g_b1 hbin dX10_play_59 ?_
          rw [show B b.toNatClampNeg = rI (bk jb) from by rw [hjbc]; exact hB jb hjb]
          refine lv_istore (lv' := [(7, .int (rI (bk jb))), (0, .ref y), (1, .int (nI j)), (2, .int wy), (3, .int f0), (4, .int b), (5, .int fr), (6, .int n)]) hx hb dX10_play_60 hl (by decide) rfl (fun ls hl => ?_)
          refine lv_iload hx hb dX10_play_62 (lv_at hl 0 rfl) ?_
          rcases hbk : bk jb with _ | w
          · refine lv_if_ge (tgt := 72) hx hb dX10_play_64 (by decide) (fun h9 => absurd h9 (by decide)) (fun _ => ?_)
            rw [hbk] at hl
            replace hl : lv_has ls 10 [(7, .int (-1)), (0, .ref y), (1, .int (nI j)), (2, .int wy), (3, .int f0), (4, .int b), (5, .int fr), (6, .int n)] := hl
            have hpf : plF bk rw bd b wy fr n = -5 := plF_n hjbc hbk
            refine lv_bipush (v := -5) hx hb dX10_play_67 (by decide) ?_
            refine lv_goto (tgt := 136) hx hb dX10_play_69 (by decide) ?_
            refine lv_istore (lv' := [(8, .int (-5)), (7, .int (-1)), (0, .ref y), (1, .int (nI j)), (2, .int wy), (3, .int f0), (4, .int b), (5, .int fr), (6, .int n)]) hx hb dX10_play_136 hl (by decide) rfl (fun ls hl => ?_)
            refine lv_iload hx hb dX10_play_138 (lv_at hl 0 rfl) ?_
            refine lv_if_eq (tgt := 160) hx hb dX10_play_140 (by decide) (fun h9 => False.elim (by revert h9; exact (fun h => absurd h (by decide)))) (fun _ => ?_)
            refine lv_aload_n hx hb dX10_play_143 rfl (lv_at hl 2 rfl) ?_
            refine m_get (ci := 8) (v := .ref b14) (C := RX10) (T := TX10) (N := 21) hx hb hts in_X10_play_X10 hown hE hM g_y rfl 18 (by decide) (hts (.fieldLink RX10 52 "CallWays2Model" "counts" "[I") (by decide +kernel)) (fun _ h9 => h9) rfl dX10_play_144 ?_
            refine lv_iconst (v := 1) hx hb dX10_play_147 (by decide) ?_
            refine lv_dup2_11 hx hb dX10_play_148 rfl rfl ?_
            refine m_iald hx hb hE hM g_b14 in3_1 dX10_play_149 ?_
            rw [show CT (1 : Int32).toNatClampNeg = c3 from by show CT 1 = c3; exact hc3]
            refine lv_iconst (v := 1) hx hb dX10_play_150 (by decide) ?_
            refine lv_iadd hx hb dX10_play_151 ?_
            refine m_iast hx hb hE hM hS g_b14 in3_1 dX10_play_152 (fun H locs hM hS => ?_)
            rw [show upd CT (1 : Int32).toNatClampNeg (c3 + 1) = upd CT 1 (c3 + 1) from rfl] at hM
            have hM : mOK E.1 (mA M sz) (mUp M b14 (mI E 3 (upd CT 1 (c3 + 1)))) H := hM
            obtain ⟨M4, eM4⟩ : ∃ z, z = mUp M b14 (mI E 3 (upd CT 1 (c3 + 1))) := ⟨_, rfl⟩
            rw [← eM4] at hM
            have g_y_ : M4 y = some (mO 8 [.ref b1, .ref b2, .ref b3, .ref b4, .ref b5, .int (nI nn), .ref b6, .ref b7, .ref b8, .ref b9, .ref b10, .ref b11, .int (nI nf), .ref b12, .ref b13, .int bd, .int st, .int fa, .ref b14, .ref b15, .ref b16]) := by rw [eM4]; exact mUp_at (nd_ne hnd 0 14 rfl rfl (by decide)) g_y
            have g_b1_ : M4 b1 = some (mI E 10 B) := by rw [eM4]; exact mUp_at (nd_ne hnd 1 14 rfl rfl (by decide)) g_b1
            have g_b2_ : M4 b2 = some (mI E 12 T) := by rw [eM4]; exact mUp_at (nd_ne hnd 2 14 rfl rfl (by decide)) g_b2
            have g_b3_ : M4 b3 = some (mI E 24 LN) := by rw [eM4]; exact mUp_at (nd_ne hnd 3 14 rfl rfl (by decide)) g_b3
            have g_b4_ : M4 b4 = some (mI E 24 SZ) := by rw [eM4]; exact mUp_at (nd_ne hnd 4 14 rfl rfl (by decide)) g_b4
            have g_b5_ : M4 b5 = some (mJ E 960 SM) := by rw [eM4]; exact mUp_at (nd_ne hnd 5 14 rfl rfl (by decide)) g_b5
            have g_b6_ : M4 b6 = some (mI E 12 SO) := by rw [eM4]; exact mUp_at (nd_ne hnd 6 14 rfl rfl (by decide)) g_b6
            have g_b7_ : M4 b7 = some (mI E 48 KN) := by rw [eM4]; exact mUp_at (nd_ne hnd 7 14 rfl rfl (by decide)) g_b7
            have g_b8_ : M4 b8 = some (mI E 12 PI) := by rw [eM4]; exact mUp_at (nd_ne hnd 8 14 rfl rfl (by decide)) g_b8
            have g_b9_ : M4 b9 = some (mZ E 12 ON) := by rw [eM4]; exact mUp_at (nd_ne hnd 9 14 rfl rfl (by decide)) g_b9
            have g_b10_ : M4 b10 = some (mI E 12 PH) := by rw [eM4]; exact mUp_at (nd_ne hnd 10 14 rfl rfl (by decide)) g_b10
            have g_b11_ : M4 b11 = some (mDb E 12 LE) := by rw [eM4]; exact mUp_at (nd_ne hnd 11 14 rfl rfl (by decide)) g_b11
            have g_b12_ : M4 b12 = some (mI E 8 KD) := by rw [eM4]; exact mUp_at (nd_ne hnd 12 14 rfl rfl (by decide)) g_b12
            have g_b13_ : M4 b13 = some (mI E 8 NM) := by rw [eM4]; exact mUp_at (nd_ne hnd 13 14 rfl rfl (by decide)) g_b13
            have g_b15_ : M4 b15 = some (mDb E 40 CM) := by rw [eM4]; exact mUp_at (nd_ne hnd 15 14 rfl rfl (by decide)) g_b15
            have g_b16_ : M4 b16 = some (mJ E 40 MV) := by rw [eM4]; exact mUp_at (nd_ne hnd 16 14 rfl rfl (by decide)) g_b16
            have g_y := g_y_
            have g_b1 := g_b1_
            have g_b2 := g_b2_
            have g_b3 := g_b3_
            have g_b4 := g_b4_
            have g_b5 := g_b5_
            have g_b6 := g_b6_
            have g_b7 := g_b7_
            have g_b8 := g_b8_
            have g_b9 := g_b9_
            have g_b10 := g_b10_
            have g_b11 := g_b11_
            have g_b12 := g_b12_
            have g_b13 := g_b13_
            have g_b15 := g_b15_
            have g_b16 := g_b16_
            have g_b14 : M4 b14 = some (mI E 3 (upd CT 1 (c3 + 1))) := by rw [eM4]; exact mUp_self _ _ _
            have hk : kept (nol y b1 b2 b3 b4 b5 b6 b7 b8 b9 b10 b11 b12 b13 b14 b15 b16) M M4 := (by rw [eM4]; exact hk.up (nol_in 14 rfl))
            refine lv_aload_n hx hb dX10_play_153 rfl (lv_at hl 2 rfl) ?_
            refine lv_iload hx hb dX10_play_154 (lv_at hl 0 rfl) ?_
            refine m_calli (va_runV (As := [.int (-5 : Int32)]) (rest := []) ⟨hx, hb, hml, hown, hts⟩ (c_X10_says l E M4 H.size y b1 b2 b3 b4 b5 b6 b7 b8 b9 b10 b11 b12 b13 b14 b15 b16 (nI nn) (nI nf) bd st fa (-5 : Int32) g_y) (cwV 1 hts gX10_play_X10_says rfl rfl rfl (by decide +kernel) ⟨Nat.le_of_ble_eq_true rfl, Nat.le_of_ble_eq_true rfl⟩) (m_preV hE hM g_y rfl) rfl rfl hl.1 rfl (lv_room (Nat.le_of_ble_eq_true rfl)) dX10_play_156 ⟨Nat.le_of_ble_eq_true rfl, Nat.le_of_ble_eq_true rfl⟩) hM hS hA (fun r2 M5 H locs hw hM hS => ?_)
            obtain ⟨e_r2, eM5⟩ := hw
            subst e_r2
            have g_b1_ : M5 b1 = some (mI E 10 B) := by rw [eM5]; exact mUp_at (nd_ne hnd 1 0 rfl rfl (by decide)) g_b1
            have g_b2_ : M5 b2 = some (mI E 12 T) := by rw [eM5]; exact mUp_at (nd_ne hnd 2 0 rfl rfl (by decide)) g_b2
            have g_b3_ : M5 b3 = some (mI E 24 LN) := by rw [eM5]; exact mUp_at (nd_ne hnd 3 0 rfl rfl (by decide)) g_b3
            have g_b4_ : M5 b4 = some (mI E 24 SZ) := by rw [eM5]; exact mUp_at (nd_ne hnd 4 0 rfl rfl (by decide)) g_b4
            have g_b5_ : M5 b5 = some (mJ E 960 SM) := by rw [eM5]; exact mUp_at (nd_ne hnd 5 0 rfl rfl (by decide)) g_b5
            have g_b6_ : M5 b6 = some (mI E 12 SO) := by rw [eM5]; exact mUp_at (nd_ne hnd 6 0 rfl rfl (by decide)) g_b6
            have g_b7_ : M5 b7 = some (mI E 48 KN) := by rw [eM5]; exact mUp_at (nd_ne hnd 7 0 rfl rfl (by decide)) g_b7
            have g_b8_ : M5 b8 = some (mI E 12 PI) := by rw [eM5]; exact mUp_at (nd_ne hnd 8 0 rfl rfl (by decide)) g_b8
            have g_b9_ : M5 b9 = some (mZ E 12 ON) := by rw [eM5]; exact mUp_at (nd_ne hnd 9 0 rfl rfl (by decide)) g_b9
            have g_b10_ : M5 b10 = some (mI E 12 PH) := by rw [eM5]; exact mUp_at (nd_ne hnd 10 0 rfl rfl (by decide)) g_b10
            have g_b11_ : M5 b11 = some (mDb E 12 LE) := by rw [eM5]; exact mUp_at (nd_ne hnd 11 0 rfl rfl (by decide)) g_b11
            have g_b12_ : M5 b12 = some (mI E 8 KD) := by rw [eM5]; exact mUp_at (nd_ne hnd 12 0 rfl rfl (by decide)) g_b12
            have g_b13_ : M5 b13 = some (mI E 8 NM) := by rw [eM5]; exact mUp_at (nd_ne hnd 13 0 rfl rfl (by decide)) g_b13
            have g_b14_ : M5 b14 = some (mI E 3 (upd CT 1 (c3 + 1))) := by rw [eM5]; exact mUp_at (nd_ne hnd 14 0 rfl rfl (by decide)) g_b14
            have g_b15_ : M5 b15 = some (mDb E 40 CM) := by rw [eM5]; exact mUp_at (nd_ne hnd 15 0 rfl rfl (by decide)) g_b15
            have g_b16_ : M5 b16 = some (mJ E 40 MV) := by rw [eM5]; exact mUp_at (nd_ne hnd 16 0 rfl rfl (by decide)) g_b16
            have g_b1 := g_b1_
            have g_b2 := g_b2_
            have g_b3 := g_b3_
            have g_b4 := g_b4_
            have g_b5 := g_b5_
            have g_b6 := g_b6_
            have g_b7 := g_b7_
            have g_b8 := g_b8_
            have g_b9 := g_b9_
            have g_b10 := g_b10_
            have g_b11 := g_b11_
            have g_b12 := g_b12_
            have g_b13 := g_b13_
            have g_b14 := g_b14_
            have g_b15 := g_b15_
            have g_b16 := g_b16_
            have g_y : M5 y = some (mO 8 [.ref b1, .ref b2, .ref b3, .ref b4, .ref b5, .int (nI nn), .ref b6, .ref b7, .ref b8, .ref b9, .ref b10, .ref b11, .int (nI nf), .ref b12, .ref b13, .int bd, .int (if (-5 : Int32) < 0 then (-5 : Int32) else 0), .int fa, .ref b14, .ref b15, .ref b16]) := by rw [eM5]; exact mUp_self _ _ _
            have hk : kept (nol y b1 b2 b3 b4 b5 b6 b7 b8 b9 b10 b11 b12 b13 b14 b15 b16) M M5 := (by rw [eM5]; exact hk.up (nol_in 0 rfl))
            rw [if_pos (show (-5 : Int32) < 0 by decide)] at g_y
            exact m_iret hx hb hr hlocks hM hS (Nat.le_refl _) (Nat.le_refl _) dX10_play_159 (by refine ⟨(by show _ = (if vPl nn nf (nI j) wy f0 b then (if plF bk rw bd b wy fr n = 0 then _ else plF bk rw bd b wy fr n) else -1); rw [if_pos hvp, hpf]; rfl), ?_, hk⟩; show mR E _ y b1 b2 b3 b4 b5 b6 b7 b8 b9 b10 b11 b12 b13 b14 b15 b16 (if vPl nn nf (nI j) wy f0 b then (if plF bk rw bd b wy fr n = 0 then _ else (nn, ins, nf, fn, bk, rw, bd, plF bk rw bd b wy fr n, c2, c3 + 1, c4)) else _); rw [if_pos hvp, hpf]; rw [if_neg (by decide)]; exact ⟨_, _, _, _, _, _, _, _, _, _, _, _, _, _, _, _, _, ⟨g_y, g_b1, g_b2, g_b3, g_b4, g_b5, g_b6, g_b7, g_b8, g_b9, g_b10, g_b11, g_b12, g_b13, g_b14, g_b15, g_b16⟩, hB, hT, hR, hN, hF, (by show upd CT 1 (c3 + 1) 0 = c2; rw [upd_o (by decide)]; exact hc2), upd_s, (by show upd CT 1 (c3 + 1) 2 = c4; rw [upd_o (by decide)]; exact hc4)⟩)
          · skip
            have hlv : live nn ins bk w := Or.inl ⟨jb, hjb, hbk⟩
            rcases hrw : rw w with ⟨lane, n0, f0w⟩
            obtain ⟨hLn, hSz, hSm⟩ := hR w hlv _ _ _ hrw
            have hw24 := hv24 w hlv
            obtain ⟨hn40, hlane, hvo⟩ := hvR w hlv _ _ _ hrw
            refine lv_if_ge (tgt := 72) hx hb dX10_play_64 (by decide) (fun _ => ?_) (fun h9 => absurd ((nI_leI (a := 0) (by decide) (by omega)).mpr (Nat.zero_le w)) h9)
            rw [hbk] at hl
            replace hl : lv_has ls 10 [(7, .int (nI w)), (0, .ref y), (1, .int (nI j)), (2, .int wy), (3, .int f0), (4, .int b), (5, .int fr), (6, .int n)] := hl
            have hpw : plF bk rw bd b wy fr n = sInto lane n0 bd wy fr n := (by have := plF_w (bk := bk) (rw := rw) (bd := bd) (wy := wy) (fr := fr) (n := n) (w := w) (by rw [hjbc]; exact hbk); rw [hrw] at this; exact this)
            have core : plF bk rw bd b wy fr n = 0 → spn n0 fr n → ∀ (ls : Array Slot), lv_has ls 10 [(8, .int 0), (7, .int (nI w)), (0, .ref y), (1, .int (nI j)), (2, .int wy), (3, .int f0), (4, .int b), (5, .int fr), (6, .int n)] → W p l e ({ frames := 4, cells := 0, slots := 0, locals := 97 } : Room) s m #[.ref y, .int (nI j), .int wy, .int f0, .int b, .int fr, .int n] below meth c H locs (0) (0) (MQ below (mQi E M sz (fun r u => r = aPlay (nn, ins, nf, fn, bk, rw, bd, st, c2, c3, c4) (nI j) wy f0 b fr n ∧ mR E u y b1 b2 b3 b4 b5 b6 b7 b8 b9 b10 b11 b12 b13 b14 b15 b16 (nPlay (nn, ins, nf, fn, bk, rw, bd, st, c2, c3, c4) (nI j) wy f0 b fr n) ∧ kept (nol y b1 b2 b3 b4 b5 b6 b7 b8 b9 b10 b11 b12 b13 b14 b15 b16) M u)) #[.ref y, .int (nI j), .int wy, .int f0, .int b, .int fr, .int n] s (0) (0) (mA M sz)) (F0 m 160 ls []) := by
              intro hpf hspn ls hl
              obtain ⟨a9, kn, efr, ekn, hak⟩ := spn_nat hn40 hspn
              subst efr
              subst ekn
              have hkc : (nI kn).toNatClampNeg = kn := nI_clamp (by omega)
              have hac : (nI a9).toNatClampNeg = a9 := nI_clamp (by omega)
              have hd5 : [y, b10, b11, b14, b15].Nodup := nd5 hnd
              obtain ⟨fu, efu⟩ : ∃ z, z = (plFu fn wy f0) := ⟨_, rfl⟩
              have hgo0 : plGo ins rw fu j kn = sGo ci kf pi on (tb.map rw) ph le fu 0 kn := (by unfold plGo; rw [hins])
              have hst : ∀ k, dL (sSt ci kf pi on (tb.map rw) ph le k).2 := dL_st hle
              have efu2 : fu = none := (by rw [efu]; unfold plFu; rw [if_neg hw2])
              have hfin : ∀ k, FP.Core.DFin (psO fu (sSm ci kf pi on (tb.map rw) ph le k).2.1) := fun k => (by rw [efu2]; exact (dB_give (hst k) hto).fin (by decide))
              have mid : ∀ (wh : Int32) (kk : Nat) (CM9 : Nat → UInt64) (fa9 : Int32) (Mi : mMem) (ls : Array Slot) (H : Heap) (locs : List Loc), sGo ci kf pi on (tb.map rw) ph le fu 0 kn = (wh, kk) → (wh = 0 ∨ wh < 0) → (wh = 0 → ∀ z, z < kn → CM9 z = psO fu (sSm ci kf pi on (tb.map rw) ph le z).2.1) → Mi = pen M y b10 b11 b14 b15 (mO 8 [.ref b1, .ref b2, .ref b3, .ref b4, .ref b5, .int (nI nn), .ref b6, .ref b7, .ref b8, .ref b9, .ref b10, .ref b11, .int (nI nf), .ref b12, .ref b13, .int bd, .int st, .int fa9, .ref b14, .ref b15, .ref b16]) (mI E 12 (upd PH j (sSt ci kf pi on (tb.map rw) ph le kk).1)) (mDb E 12 (sLE ci LE j (sSt ci kf pi on (tb.map rw) ph le kk).2)) (mI E 3 (upd CT 2 (c4 + nI kk))) (mDb E 40 CM9) → mOK E.1 (mA M sz) Mi H → va_S (mA M sz) s.heap H locs → lv_has ls 10 [(8, .int wh), (7, .int (nI w)), (0, .ref y), (1, .int (nI j)), (2, .int wy), (3, .int f0), (4, .int b), (5, .int (nI a9)), (6, .int (nI kn))] → W p l e ({ frames := 4, cells := 0, slots := 0, locals := 97 } : Room) s m #[.ref y, .int (nI j), .int wy, .int f0, .int b, .int (nI a9), .int (nI kn)] below meth c H locs (0) (0) (MQ below (mQi E M sz (fun r u => r = aPlay (nn, ins, nf, fn, bk, rw, bd, st, c2, c3, c4) (nI j) wy f0 b (nI a9) (nI kn) ∧ mR E u y b1 b2 b3 b4 b5 b6 b7 b8 b9 b10 b11 b12 b13 b14 b15 b16 (nPlay (nn, ins, nf, fn, bk, rw, bd, st, c2, c3, c4) (nI j) wy f0 b (nI a9) (nI kn)) ∧ kept (nol y b1 b2 b3 b4 b5 b6 b7 b8 b9 b10 b11 b12 b13 b14 b15 b16) M u)) #[.ref y, .int (nI j), .int wy, .int f0, .int b, .int (nI a9), .int (nI kn)] s (0) (0) (mA M sz)) (F0 m 240 ls []) := by
                intro wh kk CM9 fa9 M0 ls H locs hgo hwh hCM eM0 hM hS hl
                have g_b1 : M0 b1 = some (mI E 10 B) := by rw [eM0]; exact pen_ne g0_b1 (nd_ne hnd 1 0 rfl rfl (by decide)) (nd_ne hnd 1 10 rfl rfl (by decide)) (nd_ne hnd 1 11 rfl rfl (by decide)) (nd_ne hnd 1 14 rfl rfl (by decide)) (nd_ne hnd 1 15 rfl rfl (by decide))
                have g_b2 : M0 b2 = some (mI E 12 T) := by rw [eM0]; exact pen_ne g0_b2 (nd_ne hnd 2 0 rfl rfl (by decide)) (nd_ne hnd 2 10 rfl rfl (by decide)) (nd_ne hnd 2 11 rfl rfl (by decide)) (nd_ne hnd 2 14 rfl rfl (by decide)) (nd_ne hnd 2 15 rfl rfl (by decide))
                have g_b3 : M0 b3 = some (mI E 24 LN) := by rw [eM0]; exact pen_ne g0_b3 (nd_ne hnd 3 0 rfl rfl (by decide)) (nd_ne hnd 3 10 rfl rfl (by decide)) (nd_ne hnd 3 11 rfl rfl (by decide)) (nd_ne hnd 3 14 rfl rfl (by decide)) (nd_ne hnd 3 15 rfl rfl (by decide))
                have g_b4 : M0 b4 = some (mI E 24 SZ) := by rw [eM0]; exact pen_ne g0_b4 (nd_ne hnd 4 0 rfl rfl (by decide)) (nd_ne hnd 4 10 rfl rfl (by decide)) (nd_ne hnd 4 11 rfl rfl (by decide)) (nd_ne hnd 4 14 rfl rfl (by decide)) (nd_ne hnd 4 15 rfl rfl (by decide))
                have g_b5 : M0 b5 = some (mJ E 960 SM) := by rw [eM0]; exact pen_ne g0_b5 (nd_ne hnd 5 0 rfl rfl (by decide)) (nd_ne hnd 5 10 rfl rfl (by decide)) (nd_ne hnd 5 11 rfl rfl (by decide)) (nd_ne hnd 5 14 rfl rfl (by decide)) (nd_ne hnd 5 15 rfl rfl (by decide))
                have g_b6 : M0 b6 = some (mI E 12 SO) := by rw [eM0]; exact pen_ne g0_b6 (nd_ne hnd 6 0 rfl rfl (by decide)) (nd_ne hnd 6 10 rfl rfl (by decide)) (nd_ne hnd 6 11 rfl rfl (by decide)) (nd_ne hnd 6 14 rfl rfl (by decide)) (nd_ne hnd 6 15 rfl rfl (by decide))
                have g_b7 : M0 b7 = some (mI E 48 KN) := by rw [eM0]; exact pen_ne g0_b7 (nd_ne hnd 7 0 rfl rfl (by decide)) (nd_ne hnd 7 10 rfl rfl (by decide)) (nd_ne hnd 7 11 rfl rfl (by decide)) (nd_ne hnd 7 14 rfl rfl (by decide)) (nd_ne hnd 7 15 rfl rfl (by decide))
                have g_b8 : M0 b8 = some (mI E 12 PI) := by rw [eM0]; exact pen_ne g0_b8 (nd_ne hnd 8 0 rfl rfl (by decide)) (nd_ne hnd 8 10 rfl rfl (by decide)) (nd_ne hnd 8 11 rfl rfl (by decide)) (nd_ne hnd 8 14 rfl rfl (by decide)) (nd_ne hnd 8 15 rfl rfl (by decide))
                have g_b9 : M0 b9 = some (mZ E 12 ON) := by rw [eM0]; exact pen_ne g0_b9 (nd_ne hnd 9 0 rfl rfl (by decide)) (nd_ne hnd 9 10 rfl rfl (by decide)) (nd_ne hnd 9 11 rfl rfl (by decide)) (nd_ne hnd 9 14 rfl rfl (by decide)) (nd_ne hnd 9 15 rfl rfl (by decide))
                have g_b12 : M0 b12 = some (mI E 8 KD) := by rw [eM0]; exact pen_ne g0_b12 (nd_ne hnd 12 0 rfl rfl (by decide)) (nd_ne hnd 12 10 rfl rfl (by decide)) (nd_ne hnd 12 11 rfl rfl (by decide)) (nd_ne hnd 12 14 rfl rfl (by decide)) (nd_ne hnd 12 15 rfl rfl (by decide))
                have g_b13 : M0 b13 = some (mI E 8 NM) := by rw [eM0]; exact pen_ne g0_b13 (nd_ne hnd 13 0 rfl rfl (by decide)) (nd_ne hnd 13 10 rfl rfl (by decide)) (nd_ne hnd 13 11 rfl rfl (by decide)) (nd_ne hnd 13 14 rfl rfl (by decide)) (nd_ne hnd 13 15 rfl rfl (by decide))
                have g_b16 : M0 b16 = some (mJ E 40 MV) := by rw [eM0]; exact pen_ne g0_b16 (nd_ne hnd 16 0 rfl rfl (by decide)) (nd_ne hnd 16 10 rfl rfl (by decide)) (nd_ne hnd 16 11 rfl rfl (by decide)) (nd_ne hnd 16 14 rfl rfl (by decide)) (nd_ne hnd 16 15 rfl rfl (by decide))
                have g_y : M0 y = some (mO 8 [.ref b1, .ref b2, .ref b3, .ref b4, .ref b5, .int (nI nn), .ref b6, .ref b7, .ref b8, .ref b9, .ref b10, .ref b11, .int (nI nf), .ref b12, .ref b13, .int bd, .int st, .int fa9, .ref b14, .ref b15, .ref b16]) := by rw [eM0]; exact mUp_at (nd_ne hnd 0 15 rfl rfl (by decide)) (mUp_at (nd_ne hnd 0 14 rfl rfl (by decide)) (tri_gp (nd_ne hnd 0 10 rfl rfl (by decide)) (nd_ne hnd 0 11 rfl rfl (by decide))))
                have g_b10 : M0 b10 = some (mI E 12 (upd PH j (sSt ci kf pi on (tb.map rw) ph le kk).1)) := by rw [eM0]; exact mUp_at (nd_ne hnd 10 15 rfl rfl (by decide)) (mUp_at (nd_ne hnd 10 14 rfl rfl (by decide)) (tri_gx (nd_ne hnd 10 11 rfl rfl (by decide))))
                have g_b11 : M0 b11 = some (mDb E 12 (sLE ci LE j (sSt ci kf pi on (tb.map rw) ph le kk).2)) := by rw [eM0]; exact mUp_at (nd_ne hnd 11 15 rfl rfl (by decide)) (mUp_at (nd_ne hnd 11 14 rfl rfl (by decide)) tri_ga)
                have g_b14 : M0 b14 = some (mI E 3 (upd CT 2 (c4 + nI kk))) := by rw [eM0]; exact mUp_at (nd_ne hnd 14 15 rfl rfl (by decide)) (mUp_self _ _ _)
                have g_b15 : M0 b15 = some (mDb E 40 CM9) := by rw [eM0]; exact mUp_self _ _ _
                have hk : kept (nol y b1 b2 b3 b4 b5 b6 b7 b8 b9 b10 b11 b12 b13 b14 b15 b16) M M0 := (by rw [eM0]; exact ((kept.rf.tri (nol_in 0 rfl) (nol_in 10 rfl) (nol_in 11 rfl)).up (nol_in 14 rfl)).up (nol_in 15 rfl))
                obtain hgo1 : plGo ins rw fu j kn = (wh, kk) := hgo0.trans hgo
                have h0_y := g_y
                have h0_b1 := g_b1
                have h0_b2 := g_b2
                have h0_b3 := g_b3
                have h0_b4 := g_b4
                have h0_b5 := g_b5
                have h0_b6 := g_b6
                have h0_b7 := g_b7
                have h0_b8 := g_b8
                have h0_b9 := g_b9
                have h0_b10 := g_b10
                have h0_b11 := g_b11
                have h0_b12 := g_b12
                have h0_b13 := g_b13
                have h0_b14 := g_b14
                have h0_b15 := g_b15
                have h0_b16 := g_b16
                have hk0 := hk
                have loop2 : ∀ (n9 : Nat) (k9 : Nat) (Mi : mMem) (ls : Array Slot) (H : Heap) (locs : List Loc), k9 + n9 = kn → Mi = mUp M0 b5 (mJ E 960 (va_cpy (fun z => sBits lane ((fun z => sTurn lane (if wh = 0 then CM9 z else FP.dconst0)) z)) SM 0 (40 * w + a9) k9)) → mOK E.1 (mA M sz) Mi H → va_S (mA M sz) s.heap H locs → lv_has ls 10 [(9, .int (nI k9)), (8, .int wh), (7, .int (nI w)), (0, .ref y), (1, .int (nI j)), (2, .int wy), (3, .int f0), (4, .int b), (5, .int (nI a9)), (6, .int (nI kn))] → W p l e ({ frames := 4, cells := 0, slots := 0, locals := 97 } : Room) s m #[.ref y, .int (nI j), .int wy, .int f0, .int b, .int (nI a9), .int (nI kn)] below meth c H locs (0) (0) (MQ below (mQi E M sz (fun r u => r = aPlay (nn, ins, nf, fn, bk, rw, bd, st, c2, c3, c4) (nI j) wy f0 b (nI a9) (nI kn) ∧ mR E u y b1 b2 b3 b4 b5 b6 b7 b8 b9 b10 b11 b12 b13 b14 b15 b16 (nPlay (nn, ins, nf, fn, bk, rw, bd, st, c2, c3, c4) (nI j) wy f0 b (nI a9) (nI kn)) ∧ kept (nol y b1 b2 b3 b4 b5 b6 b7 b8 b9 b10 b11 b12 b13 b14 b15 b16) M u)) #[.ref y, .int (nI j), .int wy, .int f0, .int b, .int (nI a9), .int (nI kn)] s (0) (0) (mA M sz)) (F0 m 243 ls []) := by
                  intro n9
                  induction n9 with
                  | zero =>
                    intro k9 Mi ls H locs hk9 eMi hM hS hl
                    have hh_y : Mi y = some (mO 8 [.ref b1, .ref b2, .ref b3, .ref b4, .ref b5, .int (nI nn), .ref b6, .ref b7, .ref b8, .ref b9, .ref b10, .ref b11, .int (nI nf), .ref b12, .ref b13, .int bd, .int st, .int fa9, .ref b14, .ref b15, .ref b16]) := by rw [eMi]; exact mUp_at (nd_ne hnd 0 5 rfl rfl (by decide)) h0_y
                    have hh_b1 : Mi b1 = some (mI E 10 B) := by rw [eMi]; exact mUp_at (nd_ne hnd 1 5 rfl rfl (by decide)) h0_b1
                    have hh_b2 : Mi b2 = some (mI E 12 T) := by rw [eMi]; exact mUp_at (nd_ne hnd 2 5 rfl rfl (by decide)) h0_b2
                    have hh_b3 : Mi b3 = some (mI E 24 LN) := by rw [eMi]; exact mUp_at (nd_ne hnd 3 5 rfl rfl (by decide)) h0_b3
                    have hh_b4 : Mi b4 = some (mI E 24 SZ) := by rw [eMi]; exact mUp_at (nd_ne hnd 4 5 rfl rfl (by decide)) h0_b4
                    have hh_b6 : Mi b6 = some (mI E 12 SO) := by rw [eMi]; exact mUp_at (nd_ne hnd 6 5 rfl rfl (by decide)) h0_b6
                    have hh_b7 : Mi b7 = some (mI E 48 KN) := by rw [eMi]; exact mUp_at (nd_ne hnd 7 5 rfl rfl (by decide)) h0_b7
                    have hh_b8 : Mi b8 = some (mI E 12 PI) := by rw [eMi]; exact mUp_at (nd_ne hnd 8 5 rfl rfl (by decide)) h0_b8
                    have hh_b9 : Mi b9 = some (mZ E 12 ON) := by rw [eMi]; exact mUp_at (nd_ne hnd 9 5 rfl rfl (by decide)) h0_b9
                    have hh_b10 : Mi b10 = some (mI E 12 (upd PH j (sSt ci kf pi on (tb.map rw) ph le kk).1)) := by rw [eMi]; exact mUp_at (nd_ne hnd 10 5 rfl rfl (by decide)) h0_b10
                    have hh_b11 : Mi b11 = some (mDb E 12 (sLE ci LE j (sSt ci kf pi on (tb.map rw) ph le kk).2)) := by rw [eMi]; exact mUp_at (nd_ne hnd 11 5 rfl rfl (by decide)) h0_b11
                    have hh_b12 : Mi b12 = some (mI E 8 KD) := by rw [eMi]; exact mUp_at (nd_ne hnd 12 5 rfl rfl (by decide)) h0_b12
                    have hh_b13 : Mi b13 = some (mI E 8 NM) := by rw [eMi]; exact mUp_at (nd_ne hnd 13 5 rfl rfl (by decide)) h0_b13
                    have hh_b14 : Mi b14 = some (mI E 3 (upd CT 2 (c4 + nI kk))) := by rw [eMi]; exact mUp_at (nd_ne hnd 14 5 rfl rfl (by decide)) h0_b14
                    have hh_b15 : Mi b15 = some (mDb E 40 CM9) := by rw [eMi]; exact mUp_at (nd_ne hnd 15 5 rfl rfl (by decide)) h0_b15
                    have hh_b16 : Mi b16 = some (mJ E 40 MV) := by rw [eMi]; exact mUp_at (nd_ne hnd 16 5 rfl rfl (by decide)) h0_b16
                    have hh_b5 : Mi b5 = some (mJ E 960 (va_cpy (fun z => sBits lane ((fun z => sTurn lane (if wh = 0 then CM9 z else FP.dconst0)) z)) SM 0 (40 * w + a9) k9)) := by rw [eMi]; exact mUp_self _ _ _
                    have g_y := hh_y
                    have g_b1 := hh_b1
                    have g_b2 := hh_b2
                    have g_b3 := hh_b3
                    have g_b4 := hh_b4
                    have g_b5 := hh_b5
                    have g_b6 := hh_b6
                    have g_b7 := hh_b7
                    have g_b8 := hh_b8
                    have g_b9 := hh_b9
                    have g_b10 := hh_b10
                    have g_b11 := hh_b11
                    have g_b12 := hh_b12
                    have g_b13 := hh_b13
                    have g_b14 := hh_b14
                    have g_b15 := hh_b15
                    have g_b16 := hh_b16
                    have hk : kept (nol y b1 b2 b3 b4 b5 b6 b7 b8 b9 b10 b11 b12 b13 b14 b15 b16) M Mi := (by rw [eMi]; exact hk0.up (nol_in 5 rfl))
                    refine lv_iload hx hb dX10_play_243 (lv_at hl 0 rfl) ?_
                    refine lv_iload hx hb dX10_play_245 (lv_at hl 9 rfl) ?_
                    refine lv_icmp_ge (tgt := 298) hx hb dX10_play_247 (by decide) (fun _ => ?_) (fun h9 => False.elim (by revert h9; exact (fun h => h (nI_le (by omega) (by omega)))))
                    refine lv_aload_n hx hb dX10_play_298 rfl (lv_at hl 3 rfl) ?_
                    refine m_get (ci := 8) (v := .ref b14) (C := RX10) (T := TX10) (N := 21) hx hb hts in_X10_play_X10 hown hE hM g_y rfl 18 (by decide) (hts (.fieldLink RX10 52 "CallWays2Model" "counts" "[I") (by decide +kernel)) (fun _ h9 => h9) rfl dX10_play_299 ?_
                    refine lv_iload hx hb dX10_play_302 (lv_at hl 1 rfl) ?_
                    refine lv_if_ne (tgt := 311) hx hb dX10_play_304 (by decide) (fun c_304 => ?_) (fun c_304 => ?_)
                    · skip
                      refine lv_iconst (v := 1) hx hb dX10_play_311 (by decide) ?_
                      refine lv_dup2_11 hx hb dX10_play_312 rfl rfl ?_
                      refine m_iald hx hb hE hM g_b14 in3_1 dX10_play_313 ?_
                      rw [show (upd CT 2 (c4 + nI kk)) (1 : Int32).toNatClampNeg = c3 from by show upd CT 2 (c4 + nI kk) 1 = c3; rw [upd_o (by decide)]; exact hc3]
                      refine lv_iconst (v := 1) hx hb dX10_play_314 (by decide) ?_
                      refine lv_iadd hx hb dX10_play_315 ?_
                      refine m_iast hx hb hE hM hS g_b14 in3_1 dX10_play_316 (fun H locs hM hS => ?_)
                      rw [show upd (upd CT 2 (c4 + nI kk)) (1 : Int32).toNatClampNeg (c3 + 1) = upd (upd CT 2 (c4 + nI kk)) 1 (c3 + 1) from rfl] at hM
                      have hM : mOK E.1 (mA M sz) (mUp Mi b14 (mI E 3 (upd (upd CT 2 (c4 + nI kk)) 1 (c3 + 1)))) H := hM
                      obtain ⟨M6, eM6⟩ : ∃ z, z = mUp Mi b14 (mI E 3 (upd (upd CT 2 (c4 + nI kk)) 1 (c3 + 1))) := ⟨_, rfl⟩
                      rw [← eM6] at hM
                      have g_y_ : M6 y = some (mO 8 [.ref b1, .ref b2, .ref b3, .ref b4, .ref b5, .int (nI nn), .ref b6, .ref b7, .ref b8, .ref b9, .ref b10, .ref b11, .int (nI nf), .ref b12, .ref b13, .int bd, .int st, .int fa9, .ref b14, .ref b15, .ref b16]) := by rw [eM6]; exact mUp_at (nd_ne hnd 0 14 rfl rfl (by decide)) g_y
                      have g_b1_ : M6 b1 = some (mI E 10 B) := by rw [eM6]; exact mUp_at (nd_ne hnd 1 14 rfl rfl (by decide)) g_b1
                      have g_b2_ : M6 b2 = some (mI E 12 T) := by rw [eM6]; exact mUp_at (nd_ne hnd 2 14 rfl rfl (by decide)) g_b2
                      have g_b3_ : M6 b3 = some (mI E 24 LN) := by rw [eM6]; exact mUp_at (nd_ne hnd 3 14 rfl rfl (by decide)) g_b3
                      have g_b4_ : M6 b4 = some (mI E 24 SZ) := by rw [eM6]; exact mUp_at (nd_ne hnd 4 14 rfl rfl (by decide)) g_b4
                      have g_b5_ : M6 b5 = some (mJ E 960 (va_cpy (fun z => sBits lane ((fun z => sTurn lane (if wh = 0 then CM9 z else FP.dconst0)) z)) SM 0 (40 * w + a9) k9)) := by rw [eM6]; exact mUp_at (nd_ne hnd 5 14 rfl rfl (by decide)) g_b5
                      have g_b6_ : M6 b6 = some (mI E 12 SO) := by rw [eM6]; exact mUp_at (nd_ne hnd 6 14 rfl rfl (by decide)) g_b6
                      have g_b7_ : M6 b7 = some (mI E 48 KN) := by rw [eM6]; exact mUp_at (nd_ne hnd 7 14 rfl rfl (by decide)) g_b7
                      have g_b8_ : M6 b8 = some (mI E 12 PI) := by rw [eM6]; exact mUp_at (nd_ne hnd 8 14 rfl rfl (by decide)) g_b8
                      have g_b9_ : M6 b9 = some (mZ E 12 ON) := by rw [eM6]; exact mUp_at (nd_ne hnd 9 14 rfl rfl (by decide)) g_b9
                      have g_b10_ : M6 b10 = some (mI E 12 (upd PH j (sSt ci kf pi on (tb.map rw) ph le kk).1)) := by rw [eM6]; exact mUp_at (nd_ne hnd 10 14 rfl rfl (by decide)) g_b10
                      have g_b11_ : M6 b11 = some (mDb E 12 (sLE ci LE j (sSt ci kf pi on (tb.map rw) ph le kk).2)) := by rw [eM6]; exact mUp_at (nd_ne hnd 11 14 rfl rfl (by decide)) g_b11
                      have g_b12_ : M6 b12 = some (mI E 8 KD) := by rw [eM6]; exact mUp_at (nd_ne hnd 12 14 rfl rfl (by decide)) g_b12
                      have g_b13_ : M6 b13 = some (mI E 8 NM) := by rw [eM6]; exact mUp_at (nd_ne hnd 13 14 rfl rfl (by decide)) g_b13
                      have g_b15_ : M6 b15 = some (mDb E 40 CM9) := by rw [eM6]; exact mUp_at (nd_ne hnd 15 14 rfl rfl (by decide)) g_b15
                      have g_b16_ : M6 b16 = some (mJ E 40 MV) := by rw [eM6]; exact mUp_at (nd_ne hnd 16 14 rfl rfl (by decide)) g_b16
                      have g_y := g_y_
                      have g_b1 := g_b1_
                      have g_b2 := g_b2_
                      have g_b3 := g_b3_
                      have g_b4 := g_b4_
                      have g_b5 := g_b5_
                      have g_b6 := g_b6_
                      have g_b7 := g_b7_
                      have g_b8 := g_b8_
                      have g_b9 := g_b9_
                      have g_b10 := g_b10_
                      have g_b11 := g_b11_
                      have g_b12 := g_b12_
                      have g_b13 := g_b13_
                      have g_b15 := g_b15_
                      have g_b16 := g_b16_
                      have g_b14 : M6 b14 = some (mI E 3 (upd (upd CT 2 (c4 + nI kk)) 1 (c3 + 1))) := by rw [eM6]; exact mUp_self _ _ _
                      have hk : kept (nol y b1 b2 b3 b4 b5 b6 b7 b8 b9 b10 b11 b12 b13 b14 b15 b16) M M6 := (by rw [eM6]; exact hk.up (nol_in 14 rfl))
                      refine lv_aload_n hx hb dX10_play_317 rfl (lv_at hl 3 rfl) ?_
                      refine lv_iload hx hb dX10_play_318 (lv_at hl 1 rfl) ?_
                      refine lv_if_ne (tgt := 328) hx hb dX10_play_320 (by decide) (fun _ => ?_) (fun h9 => False.elim (by revert h9; exact (fun h => absurd h c_304)))
                      refine lv_iload hx hb dX10_play_328 (lv_at hl 1 rfl) ?_
                      refine m_calli (va_runV (As := [.int wh]) (rest := []) ⟨hx, hb, hml, hown, hts⟩ (c_X10_says l E M6 H.size y b1 b2 b3 b4 b5 b6 b7 b8 b9 b10 b11 b12 b13 b14 b15 b16 (nI nn) (nI nf) bd st fa9 wh g_y) (cwV 1 hts gX10_play_X10_says rfl rfl rfl (by decide +kernel) ⟨Nat.le_of_ble_eq_true rfl, Nat.le_of_ble_eq_true rfl⟩) (m_preV hE hM g_y rfl) rfl rfl hl.1 rfl (lv_room (Nat.le_of_ble_eq_true rfl)) dX10_play_330 ⟨Nat.le_of_ble_eq_true rfl, Nat.le_of_ble_eq_true rfl⟩) hM hS hA (fun r2 M7 H locs hw hM hS => ?_)
                      obtain ⟨e_r2, eM7⟩ := hw
                      subst r2
                      have g_b1_ : M7 b1 = some (mI E 10 B) := by rw [eM7]; exact mUp_at (nd_ne hnd 1 0 rfl rfl (by decide)) g_b1
                      have g_b2_ : M7 b2 = some (mI E 12 T) := by rw [eM7]; exact mUp_at (nd_ne hnd 2 0 rfl rfl (by decide)) g_b2
                      have g_b3_ : M7 b3 = some (mI E 24 LN) := by rw [eM7]; exact mUp_at (nd_ne hnd 3 0 rfl rfl (by decide)) g_b3
                      have g_b4_ : M7 b4 = some (mI E 24 SZ) := by rw [eM7]; exact mUp_at (nd_ne hnd 4 0 rfl rfl (by decide)) g_b4
                      have g_b5_ : M7 b5 = some (mJ E 960 (va_cpy (fun z => sBits lane ((fun z => sTurn lane (if wh = 0 then CM9 z else FP.dconst0)) z)) SM 0 (40 * w + a9) k9)) := by rw [eM7]; exact mUp_at (nd_ne hnd 5 0 rfl rfl (by decide)) g_b5
                      have g_b6_ : M7 b6 = some (mI E 12 SO) := by rw [eM7]; exact mUp_at (nd_ne hnd 6 0 rfl rfl (by decide)) g_b6
                      have g_b7_ : M7 b7 = some (mI E 48 KN) := by rw [eM7]; exact mUp_at (nd_ne hnd 7 0 rfl rfl (by decide)) g_b7
                      have g_b8_ : M7 b8 = some (mI E 12 PI) := by rw [eM7]; exact mUp_at (nd_ne hnd 8 0 rfl rfl (by decide)) g_b8
                      have g_b9_ : M7 b9 = some (mZ E 12 ON) := by rw [eM7]; exact mUp_at (nd_ne hnd 9 0 rfl rfl (by decide)) g_b9
                      have g_b10_ : M7 b10 = some (mI E 12 (upd PH j (sSt ci kf pi on (tb.map rw) ph le kk).1)) := by rw [eM7]; exact mUp_at (nd_ne hnd 10 0 rfl rfl (by decide)) g_b10
                      have g_b11_ : M7 b11 = some (mDb E 12 (sLE ci LE j (sSt ci kf pi on (tb.map rw) ph le kk).2)) := by rw [eM7]; exact mUp_at (nd_ne hnd 11 0 rfl rfl (by decide)) g_b11
                      have g_b12_ : M7 b12 = some (mI E 8 KD) := by rw [eM7]; exact mUp_at (nd_ne hnd 12 0 rfl rfl (by decide)) g_b12
                      have g_b13_ : M7 b13 = some (mI E 8 NM) := by rw [eM7]; exact mUp_at (nd_ne hnd 13 0 rfl rfl (by decide)) g_b13
                      have g_b14_ : M7 b14 = some (mI E 3 (upd (upd CT 2 (c4 + nI kk)) 1 (c3 + 1))) := by rw [eM7]; exact mUp_at (nd_ne hnd 14 0 rfl rfl (by decide)) g_b14
                      have g_b15_ : M7 b15 = some (mDb E 40 CM9) := by rw [eM7]; exact mUp_at (nd_ne hnd 15 0 rfl rfl (by decide)) g_b15
                      have g_b16_ : M7 b16 = some (mJ E 40 MV) := by rw [eM7]; exact mUp_at (nd_ne hnd 16 0 rfl rfl (by decide)) g_b16
                      have g_b1 := g_b1_
                      have g_b2 := g_b2_
                      have g_b3 := g_b3_
                      have g_b4 := g_b4_
                      have g_b5 := g_b5_
                      have g_b6 := g_b6_
                      have g_b7 := g_b7_
                      have g_b8 := g_b8_
                      have g_b9 := g_b9_
                      have g_b10 := g_b10_
                      have g_b11 := g_b11_
                      have g_b12 := g_b12_
                      have g_b13 := g_b13_
                      have g_b14 := g_b14_
                      have g_b15 := g_b15_
                      have g_b16 := g_b16_
                      have g_y : M7 y = some (mO 8 [.ref b1, .ref b2, .ref b3, .ref b4, .ref b5, .int (nI nn), .ref b6, .ref b7, .ref b8, .ref b9, .ref b10, .ref b11, .int (nI nf), .ref b12, .ref b13, .int bd, .int (if wh < 0 then wh else 0), .int fa9, .ref b14, .ref b15, .ref b16]) := by rw [eM7]; exact mUp_self _ _ _
                      have hk : kept (nol y b1 b2 b3 b4 b5 b6 b7 b8 b9 b10 b11 b12 b13 b14 b15 b16) M M7 := (by rw [eM7]; exact hk.up (nol_in 0 rfl))
                      rw [if_pos (hwh.resolve_left c_304)] at g_y
                      exact m_iret hx hb hr hlocks hM hS (Nat.le_refl _) (Nat.le_refl _) dX10_play_333 (by refine ⟨(by show _ = (if vPl nn nf (nI j) wy f0 b then (if plF bk rw bd b wy (nI a9) (nI kn) = 0 then (if (plGo ins rw (plFu fn wy f0) (nI j).toNatClampNeg (nI kn).toNatClampNeg).1 = 0 then nI kn else (plGo ins rw (plFu fn wy f0) (nI j).toNatClampNeg (nI kn).toNatClampNeg).1) else _) else -1); rw [if_pos hvp, if_pos hpf, hjc, hkc, ← efu, hgo1]; exact (if_neg c_304).symm), ?_, hk⟩; show mR E _ y b1 b2 b3 b4 b5 b6 b7 b8 b9 b10 b11 b12 b13 b14 b15 b16 (if vPl nn nf (nI j) wy f0 b then (if plF bk rw bd b wy (nI a9) (nI kn) = 0 then (nn, plIns ins rw (plFu fn wy f0) (nI j).toNatClampNeg (nI kn).toNatClampNeg, nf, fn, bk, plRw ins bk rw (plFu fn wy f0) (nI j).toNatClampNeg (nI kn).toNatClampNeg (nI a9).toNatClampNeg b.toNatClampNeg, bd, (plGo ins rw (plFu fn wy f0) (nI j).toNatClampNeg (nI kn).toNatClampNeg).1, (if (plGo ins rw (plFu fn wy f0) (nI j).toNatClampNeg (nI kn).toNatClampNeg).1 = 0 then c2 + 1 else c2), (if (plGo ins rw (plFu fn wy f0) (nI j).toNatClampNeg (nI kn).toNatClampNeg).1 = 0 then c3 else c3 + 1), c4 + nI (plGo ins rw (plFu fn wy f0) (nI j).toNatClampNeg (nI kn).toNatClampNeg).2) else _) else _); rw [if_pos hvp, if_pos hpf, hjc, hkc, hac, hjbc, ← efu]; have hni : plIns ins rw fu j kn = va_up ins j (ci, kf, pi, on, (sSt ci kf pi on (tb.map rw) ph le kk).1, (sSt ci kf pi on (tb.map rw) ph le kk).2, tb) := (by unfold plIns; rw [hins]; show va_up ins j (ci, kf, pi, on, (sSt ci kf pi on (tb.map rw) ph le (plGo ins rw fu j kn).2).1, (sSt ci kf pi on (tb.map rw) ph le (plGo ins rw fu j kn).2).2, tb) = _; rw [hgo1]); have hnr : plRw ins bk rw fu j kn a9 jb = va_up rw w (lane, n0, dlv f0w a9 (fun z => sTurn lane (if wh = 0 then CM9 z else FP.dconst0)) kn) := (by unfold plRw; rw [hbk]; show va_up rw w ((rw w).1, (rw w).2.1, dlv (rw w).2.2 a9 (fun z => sTurn (rw w).1 (if (plGo ins rw fu j kn).1 = 0 then plSm ins rw fu j z else FP.dconst0)) kn) = _; rw [hrw, hgo1]; congr 1; show (lane, n0, dlv f0w a9 _ kn) = _; rw [dlv_c (fun z hz => (by show sTurn lane (if wh = 0 then plSm ins rw fu j z else FP.dconst0) = sTurn lane (if wh = 0 then CM9 z else FP.dconst0); by_cases hw0 : wh = 0; exact (by rw [if_pos hw0, if_pos hw0, hCM hw0 z hz]; unfold plSm; rw [hins]); exact (by rw [if_neg hw0, if_neg hw0])))]); rw [hni, hnr, hgo1]; rw [if_neg c_304, if_neg c_304]; exact ⟨_, _, _, _, _, _, _, _, _, _, _, _, _, _, _, _, _, ⟨g_y, g_b1, g_b2, g_b3, g_b4, g_b5, g_b6, g_b7, g_b8, g_b9, g_b10, g_b11, g_b12, g_b13, g_b14, g_b15, g_b16⟩, hB, (by rw [tbs_same (by rw [htbj])]; exact hT), ((hR.mono (live_up' (by rw [hins]))).set (live_upr (by rw [hins]) hlv) hrw (fun r hr => h40 r (live_up' (by rw [hins]) r hr)) (fun z hz => (by rw [show k9 = kn by omega]; exact dlv_new hSm hz)) (fun r hr z hz => mv_old hr (by omega) hz)), (hN.up (fun z _ hzj => ⟨rfl, fun _ _ => rfl, rfl, rfl, upd_o hzj, sLE_o hzj⟩) (fun z _ => ⟨id, id⟩) ⟨hSo, hKn, hPi, hOn, upd_s, fun z => sLE_s (z.resolve_left (by omega))⟩), hF, (by show upd (upd CT 2 (c4 + nI kk)) 1 (c3 + 1) 0 = _; rw [upd_o (by decide), upd_o (by decide)]; exact hc2), (by show upd (upd CT 2 (c4 + nI kk)) 1 (c3 + 1) 1 = _; exact upd_s), (by show upd (upd CT 2 (c4 + nI kk)) 1 (c3 + 1) 2 = _; rw [upd_o (by decide)]; exact upd_s)⟩)
                    · skip
                      refine lv_iconst (v := 0) hx hb dX10_play_307 (by decide) ?_
                      refine lv_goto (tgt := 312) hx hb dX10_play_308 (by decide) ?_
                      refine lv_dup2_11 hx hb dX10_play_312 rfl rfl ?_
                      refine m_iald hx hb hE hM g_b14 in3_0 dX10_play_313 ?_
                      rw [show (upd CT 2 (c4 + nI kk)) (0 : Int32).toNatClampNeg = c2 from by show upd CT 2 (c4 + nI kk) 0 = c2; rw [upd_o (by decide)]; exact hc2]
                      refine lv_iconst (v := 1) hx hb dX10_play_314 (by decide) ?_
                      refine lv_iadd hx hb dX10_play_315 ?_
                      refine m_iast hx hb hE hM hS g_b14 in3_0 dX10_play_316 (fun H locs hM hS => ?_)
                      rw [show upd (upd CT 2 (c4 + nI kk)) (0 : Int32).toNatClampNeg (c2 + 1) = upd (upd CT 2 (c4 + nI kk)) 0 (c2 + 1) from rfl] at hM
                      have hM : mOK E.1 (mA M sz) (mUp Mi b14 (mI E 3 (upd (upd CT 2 (c4 + nI kk)) 0 (c2 + 1)))) H := hM
                      obtain ⟨M8, eM8⟩ : ∃ z, z = mUp Mi b14 (mI E 3 (upd (upd CT 2 (c4 + nI kk)) 0 (c2 + 1))) := ⟨_, rfl⟩
                      rw [← eM8] at hM
                      have g_y_ : M8 y = some (mO 8 [.ref b1, .ref b2, .ref b3, .ref b4, .ref b5, .int (nI nn), .ref b6, .ref b7, .ref b8, .ref b9, .ref b10, .ref b11, .int (nI nf), .ref b12, .ref b13, .int bd, .int st, .int fa9, .ref b14, .ref b15, .ref b16]) := by rw [eM8]; exact mUp_at (nd_ne hnd 0 14 rfl rfl (by decide)) g_y
                      have g_b1_ : M8 b1 = some (mI E 10 B) := by rw [eM8]; exact mUp_at (nd_ne hnd 1 14 rfl rfl (by decide)) g_b1
                      have g_b2_ : M8 b2 = some (mI E 12 T) := by rw [eM8]; exact mUp_at (nd_ne hnd 2 14 rfl rfl (by decide)) g_b2
                      have g_b3_ : M8 b3 = some (mI E 24 LN) := by rw [eM8]; exact mUp_at (nd_ne hnd 3 14 rfl rfl (by decide)) g_b3
                      have g_b4_ : M8 b4 = some (mI E 24 SZ) := by rw [eM8]; exact mUp_at (nd_ne hnd 4 14 rfl rfl (by decide)) g_b4
                      have g_b5_ : M8 b5 = some (mJ E 960 (va_cpy (fun z => sBits lane ((fun z => sTurn lane (if wh = 0 then CM9 z else FP.dconst0)) z)) SM 0 (40 * w + a9) k9)) := by rw [eM8]; exact mUp_at (nd_ne hnd 5 14 rfl rfl (by decide)) g_b5
                      have g_b6_ : M8 b6 = some (mI E 12 SO) := by rw [eM8]; exact mUp_at (nd_ne hnd 6 14 rfl rfl (by decide)) g_b6
                      have g_b7_ : M8 b7 = some (mI E 48 KN) := by rw [eM8]; exact mUp_at (nd_ne hnd 7 14 rfl rfl (by decide)) g_b7
                      have g_b8_ : M8 b8 = some (mI E 12 PI) := by rw [eM8]; exact mUp_at (nd_ne hnd 8 14 rfl rfl (by decide)) g_b8
                      have g_b9_ : M8 b9 = some (mZ E 12 ON) := by rw [eM8]; exact mUp_at (nd_ne hnd 9 14 rfl rfl (by decide)) g_b9
                      have g_b10_ : M8 b10 = some (mI E 12 (upd PH j (sSt ci kf pi on (tb.map rw) ph le kk).1)) := by rw [eM8]; exact mUp_at (nd_ne hnd 10 14 rfl rfl (by decide)) g_b10
                      have g_b11_ : M8 b11 = some (mDb E 12 (sLE ci LE j (sSt ci kf pi on (tb.map rw) ph le kk).2)) := by rw [eM8]; exact mUp_at (nd_ne hnd 11 14 rfl rfl (by decide)) g_b11
                      have g_b12_ : M8 b12 = some (mI E 8 KD) := by rw [eM8]; exact mUp_at (nd_ne hnd 12 14 rfl rfl (by decide)) g_b12
                      have g_b13_ : M8 b13 = some (mI E 8 NM) := by rw [eM8]; exact mUp_at (nd_ne hnd 13 14 rfl rfl (by decide)) g_b13
                      have g_b15_ : M8 b15 = some (mDb E 40 CM9) := by rw [eM8]; exact mUp_at (nd_ne hnd 15 14 rfl rfl (by decide)) g_b15
                      have g_b16_ : M8 b16 = some (mJ E 40 MV) := by rw [eM8]; exact mUp_at (nd_ne hnd 16 14 rfl rfl (by decide)) g_b16
                      have g_y := g_y_
                      have g_b1 := g_b1_
                      have g_b2 := g_b2_
                      have g_b3 := g_b3_
                      have g_b4 := g_b4_
                      have g_b5 := g_b5_
                      have g_b6 := g_b6_
                      have g_b7 := g_b7_
                      have g_b8 := g_b8_
                      have g_b9 := g_b9_
                      have g_b10 := g_b10_
                      have g_b11 := g_b11_
                      have g_b12 := g_b12_
                      have g_b13 := g_b13_
                      have g_b15 := g_b15_
                      have g_b16 := g_b16_
                      have g_b14 : M8 b14 = some (mI E 3 (upd (upd CT 2 (c4 + nI kk)) 0 (c2 + 1))) := by rw [eM8]; exact mUp_self _ _ _
                      have hk : kept (nol y b1 b2 b3 b4 b5 b6 b7 b8 b9 b10 b11 b12 b13 b14 b15 b16) M M8 := (by rw [eM8]; exact hk.up (nol_in 14 rfl))
                      refine lv_aload_n hx hb dX10_play_317 rfl (lv_at hl 3 rfl) ?_
                      refine lv_iload hx hb dX10_play_318 (lv_at hl 1 rfl) ?_
                      refine lv_if_ne (tgt := 328) hx hb dX10_play_320 (by decide) (fun h9 => False.elim (by revert h9; exact (fun h => h c_304))) (fun _ => ?_)
                      refine lv_iload hx hb dX10_play_323 (lv_at hl 9 rfl) ?_
                      refine lv_goto (tgt := 330) hx hb dX10_play_325 (by decide) ?_
                      refine m_calli (va_runV (As := [.int (nI kn)]) (rest := []) ⟨hx, hb, hml, hown, hts⟩ (c_X10_says l E M8 H.size y b1 b2 b3 b4 b5 b6 b7 b8 b9 b10 b11 b12 b13 b14 b15 b16 (nI nn) (nI nf) bd st fa9 (nI kn) g_y) (cwV 1 hts gX10_play_X10_says rfl rfl rfl (by decide +kernel) ⟨Nat.le_of_ble_eq_true rfl, Nat.le_of_ble_eq_true rfl⟩) (m_preV hE hM g_y rfl) rfl rfl hl.1 rfl (lv_room (Nat.le_of_ble_eq_true rfl)) dX10_play_330 ⟨Nat.le_of_ble_eq_true rfl, Nat.le_of_ble_eq_true rfl⟩) hM hS hA (fun r2 M9 H locs hw hM hS => ?_)
                      obtain ⟨e_r2, eM9⟩ := hw
                      subst e_r2
                      have g_b1_ : M9 b1 = some (mI E 10 B) := by rw [eM9]; exact mUp_at (nd_ne hnd 1 0 rfl rfl (by decide)) g_b1
                      have g_b2_ : M9 b2 = some (mI E 12 T) := by rw [eM9]; exact mUp_at (nd_ne hnd 2 0 rfl rfl (by decide)) g_b2
                      have g_b3_ : M9 b3 = some (mI E 24 LN) := by rw [eM9]; exact mUp_at (nd_ne hnd 3 0 rfl rfl (by decide)) g_b3
                      have g_b4_ : M9 b4 = some (mI E 24 SZ) := by rw [eM9]; exact mUp_at (nd_ne hnd 4 0 rfl rfl (by decide)) g_b4
                      have g_b5_ : M9 b5 = some (mJ E 960 (va_cpy (fun z => sBits lane ((fun z => sTurn lane (if wh = 0 then CM9 z else FP.dconst0)) z)) SM 0 (40 * w + a9) k9)) := by rw [eM9]; exact mUp_at (nd_ne hnd 5 0 rfl rfl (by decide)) g_b5
                      have g_b6_ : M9 b6 = some (mI E 12 SO) := by rw [eM9]; exact mUp_at (nd_ne hnd 6 0 rfl rfl (by decide)) g_b6
                      have g_b7_ : M9 b7 = some (mI E 48 KN) := by rw [eM9]; exact mUp_at (nd_ne hnd 7 0 rfl rfl (by decide)) g_b7
                      have g_b8_ : M9 b8 = some (mI E 12 PI) := by rw [eM9]; exact mUp_at (nd_ne hnd 8 0 rfl rfl (by decide)) g_b8
                      have g_b9_ : M9 b9 = some (mZ E 12 ON) := by rw [eM9]; exact mUp_at (nd_ne hnd 9 0 rfl rfl (by decide)) g_b9
                      have g_b10_ : M9 b10 = some (mI E 12 (upd PH j (sSt ci kf pi on (tb.map rw) ph le kk).1)) := by rw [eM9]; exact mUp_at (nd_ne hnd 10 0 rfl rfl (by decide)) g_b10
                      have g_b11_ : M9 b11 = some (mDb E 12 (sLE ci LE j (sSt ci kf pi on (tb.map rw) ph le kk).2)) := by rw [eM9]; exact mUp_at (nd_ne hnd 11 0 rfl rfl (by decide)) g_b11
                      have g_b12_ : M9 b12 = some (mI E 8 KD) := by rw [eM9]; exact mUp_at (nd_ne hnd 12 0 rfl rfl (by decide)) g_b12
                      have g_b13_ : M9 b13 = some (mI E 8 NM) := by rw [eM9]; exact mUp_at (nd_ne hnd 13 0 rfl rfl (by decide)) g_b13
                      have g_b14_ : M9 b14 = some (mI E 3 (upd (upd CT 2 (c4 + nI kk)) 0 (c2 + 1))) := by rw [eM9]; exact mUp_at (nd_ne hnd 14 0 rfl rfl (by decide)) g_b14
                      have g_b15_ : M9 b15 = some (mDb E 40 CM9) := by rw [eM9]; exact mUp_at (nd_ne hnd 15 0 rfl rfl (by decide)) g_b15
                      have g_b16_ : M9 b16 = some (mJ E 40 MV) := by rw [eM9]; exact mUp_at (nd_ne hnd 16 0 rfl rfl (by decide)) g_b16
                      have g_b1 := g_b1_
                      have g_b2 := g_b2_
                      have g_b3 := g_b3_
                      have g_b4 := g_b4_
                      have g_b5 := g_b5_
                      have g_b6 := g_b6_
                      have g_b7 := g_b7_
                      have g_b8 := g_b8_
                      have g_b9 := g_b9_
                      have g_b10 := g_b10_
                      have g_b11 := g_b11_
                      have g_b12 := g_b12_
                      have g_b13 := g_b13_
                      have g_b14 := g_b14_
                      have g_b15 := g_b15_
                      have g_b16 := g_b16_
                      have g_y : M9 y = some (mO 8 [.ref b1, .ref b2, .ref b3, .ref b4, .ref b5, .int (nI nn), .ref b6, .ref b7, .ref b8, .ref b9, .ref b10, .ref b11, .int (nI nf), .ref b12, .ref b13, .int bd, .int (if (nI kn) < 0 then nI kn else 0), .int fa9, .ref b14, .ref b15, .ref b16]) := by rw [eM9]; exact mUp_self _ _ _
                      have hk : kept (nol y b1 b2 b3 b4 b5 b6 b7 b8 b9 b10 b11 b12 b13 b14 b15 b16) M M9 := (by rw [eM9]; exact hk.up (nol_in 0 rfl))
                      rw [show (if nI kn < 0 then nI kn else 0) = wh from (by rw [c_304]; exact if_neg (Int32.not_lt.mpr ((nI_leI (a := 0) (by decide) (by omega)).mpr (Nat.zero_le kn))))] at g_y
                      exact m_iret hx hb hr hlocks hM hS (Nat.le_refl _) (Nat.le_refl _) dX10_play_333 (by refine ⟨(by show _ = (if vPl nn nf (nI j) wy f0 b then (if plF bk rw bd b wy (nI a9) (nI kn) = 0 then (if (plGo ins rw (plFu fn wy f0) (nI j).toNatClampNeg (nI kn).toNatClampNeg).1 = 0 then nI kn else (plGo ins rw (plFu fn wy f0) (nI j).toNatClampNeg (nI kn).toNatClampNeg).1) else _) else -1); rw [if_pos hvp, if_pos hpf, hjc, hkc, ← efu, hgo1]; exact (if_pos c_304).symm), ?_, hk⟩; show mR E _ y b1 b2 b3 b4 b5 b6 b7 b8 b9 b10 b11 b12 b13 b14 b15 b16 (if vPl nn nf (nI j) wy f0 b then (if plF bk rw bd b wy (nI a9) (nI kn) = 0 then (nn, plIns ins rw (plFu fn wy f0) (nI j).toNatClampNeg (nI kn).toNatClampNeg, nf, fn, bk, plRw ins bk rw (plFu fn wy f0) (nI j).toNatClampNeg (nI kn).toNatClampNeg (nI a9).toNatClampNeg b.toNatClampNeg, bd, (plGo ins rw (plFu fn wy f0) (nI j).toNatClampNeg (nI kn).toNatClampNeg).1, (if (plGo ins rw (plFu fn wy f0) (nI j).toNatClampNeg (nI kn).toNatClampNeg).1 = 0 then c2 + 1 else c2), (if (plGo ins rw (plFu fn wy f0) (nI j).toNatClampNeg (nI kn).toNatClampNeg).1 = 0 then c3 else c3 + 1), c4 + nI (plGo ins rw (plFu fn wy f0) (nI j).toNatClampNeg (nI kn).toNatClampNeg).2) else _) else _); rw [if_pos hvp, if_pos hpf, hjc, hkc, hac, hjbc, ← efu]; have hni : plIns ins rw fu j kn = va_up ins j (ci, kf, pi, on, (sSt ci kf pi on (tb.map rw) ph le kk).1, (sSt ci kf pi on (tb.map rw) ph le kk).2, tb) := (by unfold plIns; rw [hins]; show va_up ins j (ci, kf, pi, on, (sSt ci kf pi on (tb.map rw) ph le (plGo ins rw fu j kn).2).1, (sSt ci kf pi on (tb.map rw) ph le (plGo ins rw fu j kn).2).2, tb) = _; rw [hgo1]); have hnr : plRw ins bk rw fu j kn a9 jb = va_up rw w (lane, n0, dlv f0w a9 (fun z => sTurn lane (if wh = 0 then CM9 z else FP.dconst0)) kn) := (by unfold plRw; rw [hbk]; show va_up rw w ((rw w).1, (rw w).2.1, dlv (rw w).2.2 a9 (fun z => sTurn (rw w).1 (if (plGo ins rw fu j kn).1 = 0 then plSm ins rw fu j z else FP.dconst0)) kn) = _; rw [hrw, hgo1]; congr 1; show (lane, n0, dlv f0w a9 _ kn) = _; rw [dlv_c (fun z hz => (by show sTurn lane (if wh = 0 then plSm ins rw fu j z else FP.dconst0) = sTurn lane (if wh = 0 then CM9 z else FP.dconst0); by_cases hw0 : wh = 0; exact (by rw [if_pos hw0, if_pos hw0, hCM hw0 z hz]; unfold plSm; rw [hins]); exact (by rw [if_neg hw0, if_neg hw0])))]); rw [hni, hnr, hgo1]; rw [if_pos c_304, if_pos c_304]; exact ⟨_, _, _, _, _, _, _, _, _, _, _, _, _, _, _, _, _, ⟨g_y, g_b1, g_b2, g_b3, g_b4, g_b5, g_b6, g_b7, g_b8, g_b9, g_b10, g_b11, g_b12, g_b13, g_b14, g_b15, g_b16⟩, hB, (by rw [tbs_same (by rw [htbj])]; exact hT), ((hR.mono (live_up' (by rw [hins]))).set (live_upr (by rw [hins]) hlv) hrw (fun r hr => h40 r (live_up' (by rw [hins]) r hr)) (fun z hz => (by rw [show k9 = kn by omega]; exact dlv_new hSm hz)) (fun r hr z hz => mv_old hr (by omega) hz)), (hN.up (fun z _ hzj => ⟨rfl, fun _ _ => rfl, rfl, rfl, upd_o hzj, sLE_o hzj⟩) (fun z _ => ⟨id, id⟩) ⟨hSo, hKn, hPi, hOn, upd_s, fun z => sLE_s (z.resolve_left (by omega))⟩), hF, (by show upd (upd CT 2 (c4 + nI kk)) 0 (c2 + 1) 0 = _; exact upd_s), (by show upd (upd CT 2 (c4 + nI kk)) 0 (c2 + 1) 1 = _; rw [upd_o (by decide), upd_o (by decide)]; exact hc3), (by show upd (upd CT 2 (c4 + nI kk)) 0 (c2 + 1) 2 = _; rw [upd_o (by decide)]; exact upd_s)⟩)
                  | succ n9 ih =>
                    intro k9 Mi ls H locs hk9 eMi hM hS hl
                    have hh_y : Mi y = some (mO 8 [.ref b1, .ref b2, .ref b3, .ref b4, .ref b5, .int (nI nn), .ref b6, .ref b7, .ref b8, .ref b9, .ref b10, .ref b11, .int (nI nf), .ref b12, .ref b13, .int bd, .int st, .int fa9, .ref b14, .ref b15, .ref b16]) := by rw [eMi]; exact mUp_at (nd_ne hnd 0 5 rfl rfl (by decide)) h0_y
                    have hh_b1 : Mi b1 = some (mI E 10 B) := by rw [eMi]; exact mUp_at (nd_ne hnd 1 5 rfl rfl (by decide)) h0_b1
                    have hh_b2 : Mi b2 = some (mI E 12 T) := by rw [eMi]; exact mUp_at (nd_ne hnd 2 5 rfl rfl (by decide)) h0_b2
                    have hh_b3 : Mi b3 = some (mI E 24 LN) := by rw [eMi]; exact mUp_at (nd_ne hnd 3 5 rfl rfl (by decide)) h0_b3
                    have hh_b4 : Mi b4 = some (mI E 24 SZ) := by rw [eMi]; exact mUp_at (nd_ne hnd 4 5 rfl rfl (by decide)) h0_b4
                    have hh_b6 : Mi b6 = some (mI E 12 SO) := by rw [eMi]; exact mUp_at (nd_ne hnd 6 5 rfl rfl (by decide)) h0_b6
                    have hh_b7 : Mi b7 = some (mI E 48 KN) := by rw [eMi]; exact mUp_at (nd_ne hnd 7 5 rfl rfl (by decide)) h0_b7
                    have hh_b8 : Mi b8 = some (mI E 12 PI) := by rw [eMi]; exact mUp_at (nd_ne hnd 8 5 rfl rfl (by decide)) h0_b8
                    have hh_b9 : Mi b9 = some (mZ E 12 ON) := by rw [eMi]; exact mUp_at (nd_ne hnd 9 5 rfl rfl (by decide)) h0_b9
                    have hh_b10 : Mi b10 = some (mI E 12 (upd PH j (sSt ci kf pi on (tb.map rw) ph le kk).1)) := by rw [eMi]; exact mUp_at (nd_ne hnd 10 5 rfl rfl (by decide)) h0_b10
                    have hh_b11 : Mi b11 = some (mDb E 12 (sLE ci LE j (sSt ci kf pi on (tb.map rw) ph le kk).2)) := by rw [eMi]; exact mUp_at (nd_ne hnd 11 5 rfl rfl (by decide)) h0_b11
                    have hh_b12 : Mi b12 = some (mI E 8 KD) := by rw [eMi]; exact mUp_at (nd_ne hnd 12 5 rfl rfl (by decide)) h0_b12
                    have hh_b13 : Mi b13 = some (mI E 8 NM) := by rw [eMi]; exact mUp_at (nd_ne hnd 13 5 rfl rfl (by decide)) h0_b13
                    have hh_b14 : Mi b14 = some (mI E 3 (upd CT 2 (c4 + nI kk))) := by rw [eMi]; exact mUp_at (nd_ne hnd 14 5 rfl rfl (by decide)) h0_b14
                    have hh_b15 : Mi b15 = some (mDb E 40 CM9) := by rw [eMi]; exact mUp_at (nd_ne hnd 15 5 rfl rfl (by decide)) h0_b15
                    have hh_b16 : Mi b16 = some (mJ E 40 MV) := by rw [eMi]; exact mUp_at (nd_ne hnd 16 5 rfl rfl (by decide)) h0_b16
                    have hh_b5 : Mi b5 = some (mJ E 960 (va_cpy (fun z => sBits lane ((fun z => sTurn lane (if wh = 0 then CM9 z else FP.dconst0)) z)) SM 0 (40 * w + a9) k9)) := by rw [eMi]; exact mUp_self _ _ _
                    have g_y := hh_y
                    have g_b1 := hh_b1
                    have g_b2 := hh_b2
                    have g_b3 := hh_b3
                    have g_b4 := hh_b4
                    have g_b5 := hh_b5
                    have g_b6 := hh_b6
                    have g_b7 := hh_b7
                    have g_b8 := hh_b8
                    have g_b9 := hh_b9
                    have g_b10 := hh_b10
                    have g_b11 := hh_b11
                    have g_b12 := hh_b12
                    have g_b13 := hh_b13
                    have g_b14 := hh_b14
                    have g_b15 := hh_b15
                    have g_b16 := hh_b16
                    have hk : kept (nol y b1 b2 b3 b4 b5 b6 b7 b8 b9 b10 b11 b12 b13 b14 b15 b16) M Mi := (by rw [eMi]; exact hk0.up (nol_in 5 rfl))
                    refine lv_iload hx hb dX10_play_243 (lv_at hl 0 rfl) ?_
                    refine lv_iload hx hb dX10_play_245 (lv_at hl 9 rfl) ?_
                    refine lv_icmp_ge (tgt := 298) hx hb dX10_play_247 (by decide) (fun h9 => False.elim (by revert h9; exact (fun h => absurd h (nI_ge (by omega) (by omega))))) (fun _ => ?_)
                    refine lv_aload_n hx hb dX10_play_250 rfl (lv_at hl 3 rfl) ?_
                    refine m_get (ci := 8) (v := .ref b5) (C := RX10) (T := TX10) (N := 21) hx hb hts in_X10_play_X10 hown hE hM g_y rfl 4 (by decide) (hts (.fieldLink RX10 22 "CallWays2Model" "samples" "[J") (by decide +kernel)) (fun _ h9 => h9) rfl dX10_play_251 ?_
                    refine lv_bipush (v := 40) hx hb dX10_play_254 (by decide) ?_
                    refine lv_iload hx hb dX10_play_256 (lv_at hl 2 rfl) ?_
                    refine lv_imul hx hb dX10_play_258 ?_
                    refine lv_iload hx hb dX10_play_259 (lv_at hl 8 rfl) ?_
                    refine lv_iadd hx hb dX10_play_261 ?_
                    refine lv_iload hx hb dX10_play_262 (lv_at hl 0 rfl) ?_
                    refine lv_iadd hx hb dX10_play_264 ?_
                    refine lv_iload hx hb dX10_play_265 (lv_at hl 1 rfl) ?_
                    refine lv_if_ne (tgt := 290) hx hb dX10_play_267 (by decide) (fun c_267 => ?_) (fun c_267 => ?_)
                    · skip
                      have hsv : (fun z => sBits lane ((fun z => sTurn lane (if wh = 0 then CM9 z else FP.dconst0)) z)) k9 = 0 := (by show sBits lane (sTurn lane (if wh = 0 then CM9 k9 else FP.dconst0)) = 0; rw [if_neg c_267]; exact sT0 lane)
                      refine lv_lconst (v := 0) hx hb dX10_play_290 (by decide) ?_
                      rw [show (40 : Int32) * nI w + nI a9 + nI k9 = nI (40 * w + (a9 + k9)) from k40a w a9 k9]
                      rw [← hsv]
                      refine m_last hx hb hE hM hS g_b5 (in_k40 hw24 (by omega)) dX10_play_291 (fun H locs hM hS => ?_)
                      rw [show vp_updL (va_cpy (fun z => sBits lane ((fun z => sTurn lane (if wh = 0 then CM9 z else FP.dconst0)) z)) SM 0 (40 * w + a9) k9) (nI (40 * w + (a9 + k9))).toNatClampNeg ((fun z => sBits lane ((fun z => sTurn lane (if wh = 0 then CM9 z else FP.dconst0)) z)) k9) = va_cpy (fun z => sBits lane ((fun z => sTurn lane (if wh = 0 then CM9 z else FP.dconst0)) z)) SM 0 (40 * w + a9) (k9 + 1) from by rw [nI_clamp (by omega), ← Nat.add_assoc]; exact (by have := cpy_s (f := (fun z => sBits lane ((fun z => sTurn lane (if wh = 0 then CM9 z else FP.dconst0)) z))) (g := SM) (a := 0) (b := 40 * w + a9) (k := k9); rw [Nat.zero_add] at this; exact this)] at hM
                      have hM : mOK E.1 (mA M sz) (mUp Mi b5 (mJ E 960 (va_cpy (fun z => sBits lane ((fun z => sTurn lane (if wh = 0 then CM9 z else FP.dconst0)) z)) SM 0 (40 * w + a9) (k9 + 1)))) H := hM
                      obtain ⟨M10, eM10⟩ : ∃ z, z = mUp Mi b5 (mJ E 960 (va_cpy (fun z => sBits lane ((fun z => sTurn lane (if wh = 0 then CM9 z else FP.dconst0)) z)) SM 0 (40 * w + a9) (k9 + 1))) := ⟨_, rfl⟩
                      rw [← eM10] at hM
                      have g_y_ : M10 y = some (mO 8 [.ref b1, .ref b2, .ref b3, .ref b4, .ref b5, .int (nI nn), .ref b6, .ref b7, .ref b8, .ref b9, .ref b10, .ref b11, .int (nI nf), .ref b12, .ref b13, .int bd, .int st, .int fa9, .ref b14, .ref b15, .ref b16]) := by rw [eM10]; exact mUp_at (nd_ne hnd 0 5 rfl rfl (by decide)) g_y
                      have g_b1_ : M10 b1 = some (mI E 10 B) := by rw [eM10]; exact mUp_at (nd_ne hnd 1 5 rfl rfl (by decide)) g_b1
                      have g_b2_ : M10 b2 = some (mI E 12 T) := by rw [eM10]; exact mUp_at (nd_ne hnd 2 5 rfl rfl (by decide)) g_b2
                      have g_b3_ : M10 b3 = some (mI E 24 LN) := by rw [eM10]; exact mUp_at (nd_ne hnd 3 5 rfl rfl (by decide)) g_b3
                      have g_b4_ : M10 b4 = some (mI E 24 SZ) := by rw [eM10]; exact mUp_at (nd_ne hnd 4 5 rfl rfl (by decide)) g_b4
                      have g_b6_ : M10 b6 = some (mI E 12 SO) := by rw [eM10]; exact mUp_at (nd_ne hnd 6 5 rfl rfl (by decide)) g_b6
                      have g_b7_ : M10 b7 = some (mI E 48 KN) := by rw [eM10]; exact mUp_at (nd_ne hnd 7 5 rfl rfl (by decide)) g_b7
                      have g_b8_ : M10 b8 = some (mI E 12 PI) := by rw [eM10]; exact mUp_at (nd_ne hnd 8 5 rfl rfl (by decide)) g_b8
                      have g_b9_ : M10 b9 = some (mZ E 12 ON) := by rw [eM10]; exact mUp_at (nd_ne hnd 9 5 rfl rfl (by decide)) g_b9
                      have g_b10_ : M10 b10 = some (mI E 12 (upd PH j (sSt ci kf pi on (tb.map rw) ph le kk).1)) := by rw [eM10]; exact mUp_at (nd_ne hnd 10 5 rfl rfl (by decide)) g_b10
                      have g_b11_ : M10 b11 = some (mDb E 12 (sLE ci LE j (sSt ci kf pi on (tb.map rw) ph le kk).2)) := by rw [eM10]; exact mUp_at (nd_ne hnd 11 5 rfl rfl (by decide)) g_b11
                      have g_b12_ : M10 b12 = some (mI E 8 KD) := by rw [eM10]; exact mUp_at (nd_ne hnd 12 5 rfl rfl (by decide)) g_b12
                      have g_b13_ : M10 b13 = some (mI E 8 NM) := by rw [eM10]; exact mUp_at (nd_ne hnd 13 5 rfl rfl (by decide)) g_b13
                      have g_b14_ : M10 b14 = some (mI E 3 (upd CT 2 (c4 + nI kk))) := by rw [eM10]; exact mUp_at (nd_ne hnd 14 5 rfl rfl (by decide)) g_b14
                      have g_b15_ : M10 b15 = some (mDb E 40 CM9) := by rw [eM10]; exact mUp_at (nd_ne hnd 15 5 rfl rfl (by decide)) g_b15
                      have g_b16_ : M10 b16 = some (mJ E 40 MV) := by rw [eM10]; exact mUp_at (nd_ne hnd 16 5 rfl rfl (by decide)) g_b16
                      have g_y := g_y_
                      have g_b1 := g_b1_
                      have g_b2 := g_b2_
                      have g_b3 := g_b3_
                      have g_b4 := g_b4_
                      have g_b6 := g_b6_
                      have g_b7 := g_b7_
                      have g_b8 := g_b8_
                      have g_b9 := g_b9_
                      have g_b10 := g_b10_
                      have g_b11 := g_b11_
                      have g_b12 := g_b12_
                      have g_b13 := g_b13_
                      have g_b14 := g_b14_
                      have g_b15 := g_b15_
                      have g_b16 := g_b16_
                      have g_b5 : M10 b5 = some (mJ E 960 (va_cpy (fun z => sBits lane ((fun z => sTurn lane (if wh = 0 then CM9 z else FP.dconst0)) z)) SM 0 (40 * w + a9) (k9 + 1))) := by rw [eM10]; exact mUp_self _ _ _
                      have hk : kept (nol y b1 b2 b3 b4 b5 b6 b7 b8 b9 b10 b11 b12 b13 b14 b15 b16) M M10 := (by rw [eM10]; exact hk.up (nol_in 5 rfl))
                      refine lv_iinc (v := ((nI k9) + 1)) (lv' := [(9, .int ((nI k9) + 1)), (8, .int wh), (7, .int (nI w)), (0, .ref y), (1, .int (nI j)), (2, .int wy), (3, .int f0), (4, .int b), (5, .int (nI a9)), (6, .int (nI kn))]) hx hb dX10_play_292 hl (k := 0) rfl rfl (by decide) rfl (fun ls hl => ?_)
                      refine lv_goto (tgt := 243) hx hb dX10_play_295 (by decide) ?_
                      rw [nI_1] at hl
                      exact ih (k9 + 1) M10 ls _ _ (by omega) (by rw [eM10, eMi, mUp_up]) hM hS (lv_sub hl [0, 1, 2, 3, 4, 5, 6, 7, 8, 9] rfl)
                    · skip
                      have hsv : (fun z => sBits lane ((fun z => sTurn lane (if wh = 0 then CM9 z else FP.dconst0)) z)) k9 = sBits lane (sTurn lane (CM9 k9)) := (by show sBits lane (sTurn lane (if wh = 0 then CM9 k9 else FP.dconst0)) = _; rw [if_pos c_267])
                      refine lv_aload_n hx hb dX10_play_270 rfl (lv_at hl 3 rfl) ?_
                      refine m_get (ci := 8) (v := .ref b3) (C := RX10) (T := TX10) (N := 21) hx hb hts in_X10_play_X10 hown hE hM g_y rfl 2 (by decide) (hts (.fieldLink RX10 16 "CallWays2Model" "laneOf" "[I") (by decide +kernel)) (fun _ h9 => h9) rfl dX10_play_271 ?_
                      refine lv_iload hx hb dX10_play_274 (lv_at hl 2 rfl) ?_
                      refine m_iald hx hb hE hM g_b3 (vp_in_nI hw24 (by decide)) dX10_play_276 ?_
                      rw [show LN (nI w).toNatClampNeg = lane from by rw [nI_clamp (by omega), hLn]]
                      refine lv_aload_n hx hb dX10_play_277 rfl (lv_at hl 3 rfl) ?_
                      refine m_get (ci := 8) (v := .ref b15) (C := RX10) (T := TX10) (N := 21) hx hb hts in_X10_play_X10 hown hE hM g_y rfl 19 (by decide) (hts (.fieldLink RX10 55 "CallWays2Model" "come" "[D") (by decide +kernel)) (fun _ h9 => h9) rfl dX10_play_278 ?_
                      refine lv_iload hx hb dX10_play_281 (lv_at hl 0 rfl) ?_
                      refine m_dald hx hb hE hM g_b15 (vp_in_nI (by omega) (by decide)) dX10_play_283 ?_
                      rw [show CM9 (nI k9).toNatClampNeg = CM9 k9 from by rw [nI_clamp (by omega)]]
                      refine m_calll (va_runS (As := [.int lane, .double (CM9 k9)]) (rest := [.int (((40 * (nI w)) + (nI a9)) + (nI k9)), .ref b5]) ⟨hx, hb, hml, hown, hts⟩ (c_X10_cast l E Mi H.size lane (CM9 k9) (by rw [hCM c_267 k9 (by omega)]; exact hfin k9) hlane) (va_cwS 2 hts gX10_play_X10_cast rfl rfl rfl (by decide +kernel) ⟨Nat.le_of_ble_eq_true rfl, Nat.le_of_ble_eq_true rfl⟩) (m_preS hE hM) rfl rfl hl.1 rfl (lv_room (Nat.le_of_ble_eq_true rfl)) dX10_play_284 ⟨Nat.le_of_ble_eq_true rfl, Nat.le_of_ble_eq_true rfl⟩) hM hS hA (fun r8 u H locs hw hM hS => ?_)
                      obtain ⟨e_r8, eu⟩ := hw
                      rw [eu] at hM
                      subst e_r8
                      refine lv_goto (tgt := 291) hx hb dX10_play_287 (by decide) ?_
                      rw [show (40 : Int32) * nI w + nI a9 + nI k9 = nI (40 * w + (a9 + k9)) from k40a w a9 k9]
                      rw [← hsv]
                      refine m_last hx hb hE hM hS g_b5 (in_k40 hw24 (by omega)) dX10_play_291 (fun H locs hM hS => ?_)
                      rw [show vp_updL (va_cpy (fun z => sBits lane ((fun z => sTurn lane (if wh = 0 then CM9 z else FP.dconst0)) z)) SM 0 (40 * w + a9) k9) (nI (40 * w + (a9 + k9))).toNatClampNeg ((fun z => sBits lane ((fun z => sTurn lane (if wh = 0 then CM9 z else FP.dconst0)) z)) k9) = va_cpy (fun z => sBits lane ((fun z => sTurn lane (if wh = 0 then CM9 z else FP.dconst0)) z)) SM 0 (40 * w + a9) (k9 + 1) from by rw [nI_clamp (by omega), ← Nat.add_assoc]; exact (by have := cpy_s (f := (fun z => sBits lane ((fun z => sTurn lane (if wh = 0 then CM9 z else FP.dconst0)) z))) (g := SM) (a := 0) (b := 40 * w + a9) (k := k9); rw [Nat.zero_add] at this; exact this)] at hM
                      have hM : mOK E.1 (mA M sz) (mUp Mi b5 (mJ E 960 (va_cpy (fun z => sBits lane ((fun z => sTurn lane (if wh = 0 then CM9 z else FP.dconst0)) z)) SM 0 (40 * w + a9) (k9 + 1)))) H := hM
                      obtain ⟨M11, eM11⟩ : ∃ z, z = mUp Mi b5 (mJ E 960 (va_cpy (fun z => sBits lane ((fun z => sTurn lane (if wh = 0 then CM9 z else FP.dconst0)) z)) SM 0 (40 * w + a9) (k9 + 1))) := ⟨_, rfl⟩
                      rw [← eM11] at hM
                      have g_y_ : M11 y = some (mO 8 [.ref b1, .ref b2, .ref b3, .ref b4, .ref b5, .int (nI nn), .ref b6, .ref b7, .ref b8, .ref b9, .ref b10, .ref b11, .int (nI nf), .ref b12, .ref b13, .int bd, .int st, .int fa9, .ref b14, .ref b15, .ref b16]) := by rw [eM11]; exact mUp_at (nd_ne hnd 0 5 rfl rfl (by decide)) g_y
                      have g_b1_ : M11 b1 = some (mI E 10 B) := by rw [eM11]; exact mUp_at (nd_ne hnd 1 5 rfl rfl (by decide)) g_b1
                      have g_b2_ : M11 b2 = some (mI E 12 T) := by rw [eM11]; exact mUp_at (nd_ne hnd 2 5 rfl rfl (by decide)) g_b2
                      have g_b3_ : M11 b3 = some (mI E 24 LN) := by rw [eM11]; exact mUp_at (nd_ne hnd 3 5 rfl rfl (by decide)) g_b3
                      have g_b4_ : M11 b4 = some (mI E 24 SZ) := by rw [eM11]; exact mUp_at (nd_ne hnd 4 5 rfl rfl (by decide)) g_b4
                      have g_b6_ : M11 b6 = some (mI E 12 SO) := by rw [eM11]; exact mUp_at (nd_ne hnd 6 5 rfl rfl (by decide)) g_b6
                      have g_b7_ : M11 b7 = some (mI E 48 KN) := by rw [eM11]; exact mUp_at (nd_ne hnd 7 5 rfl rfl (by decide)) g_b7
                      have g_b8_ : M11 b8 = some (mI E 12 PI) := by rw [eM11]; exact mUp_at (nd_ne hnd 8 5 rfl rfl (by decide)) g_b8
                      have g_b9_ : M11 b9 = some (mZ E 12 ON) := by rw [eM11]; exact mUp_at (nd_ne hnd 9 5 rfl rfl (by decide)) g_b9
                      have g_b10_ : M11 b10 = some (mI E 12 (upd PH j (sSt ci kf pi on (tb.map rw) ph le kk).1)) := by rw [eM11]; exact mUp_at (nd_ne hnd 10 5 rfl rfl (by decide)) g_b10
                      have g_b11_ : M11 b11 = some (mDb E 12 (sLE ci LE j (sSt ci kf pi on (tb.map rw) ph le kk).2)) := by rw [eM11]; exact mUp_at (nd_ne hnd 11 5 rfl rfl (by decide)) g_b11
                      have g_b12_ : M11 b12 = some (mI E 8 KD) := by rw [eM11]; exact mUp_at (nd_ne hnd 12 5 rfl rfl (by decide)) g_b12
                      have g_b13_ : M11 b13 = some (mI E 8 NM) := by rw [eM11]; exact mUp_at (nd_ne hnd 13 5 rfl rfl (by decide)) g_b13
                      have g_b14_ : M11 b14 = some (mI E 3 (upd CT 2 (c4 + nI kk))) := by rw [eM11]; exact mUp_at (nd_ne hnd 14 5 rfl rfl (by decide)) g_b14
                      have g_b15_ : M11 b15 = some (mDb E 40 CM9) := by rw [eM11]; exact mUp_at (nd_ne hnd 15 5 rfl rfl (by decide)) g_b15
                      have g_b16_ : M11 b16 = some (mJ E 40 MV) := by rw [eM11]; exact mUp_at (nd_ne hnd 16 5 rfl rfl (by decide)) g_b16
                      have g_y := g_y_
                      have g_b1 := g_b1_
                      have g_b2 := g_b2_
                      have g_b3 := g_b3_
                      have g_b4 := g_b4_
                      have g_b6 := g_b6_
                      have g_b7 := g_b7_
                      have g_b8 := g_b8_
                      have g_b9 := g_b9_
                      have g_b10 := g_b10_
                      have g_b11 := g_b11_
                      have g_b12 := g_b12_
                      have g_b13 := g_b13_
                      have g_b14 := g_b14_
                      have g_b15 := g_b15_
                      have g_b16 := g_b16_
                      have g_b5 : M11 b5 = some (mJ E 960 (va_cpy (fun z => sBits lane ((fun z => sTurn lane (if wh = 0 then CM9 z else FP.dconst0)) z)) SM 0 (40 * w + a9) (k9 + 1))) := by rw [eM11]; exact mUp_self _ _ _
                      have hk : kept (nol y b1 b2 b3 b4 b5 b6 b7 b8 b9 b10 b11 b12 b13 b14 b15 b16) M M11 := (by rw [eM11]; exact hk.up (nol_in 5 rfl))
                      refine lv_iinc (v := ((nI k9) + 1)) (lv' := [(9, .int ((nI k9) + 1)), (8, .int wh), (7, .int (nI w)), (0, .ref y), (1, .int (nI j)), (2, .int wy), (3, .int f0), (4, .int b), (5, .int (nI a9)), (6, .int (nI kn))]) hx hb dX10_play_292 hl (k := 0) rfl rfl (by decide) rfl (fun ls hl => ?_)
                      refine lv_goto (tgt := 243) hx hb dX10_play_295 (by decide) ?_
                      rw [nI_1] at hl
                      exact ih (k9 + 1) M11 ls _ _ (by omega) (by rw [eM11, eMi, mUp_up]) hM hS (lv_sub hl [0, 1, 2, 3, 4, 5, 6, 7, 8, 9] rfl)
                refine lv_iconst (v := 0) hx hb dX10_play_240 (by decide) ?_
                refine lv_istore (lv' := [(9, .int 0), (8, .int wh), (7, .int (nI w)), (0, .ref y), (1, .int (nI j)), (2, .int wy), (3, .int f0), (4, .int b), (5, .int (nI a9)), (6, .int (nI kn))]) hx hb dX10_play_241 hl (by decide) rfl (fun ls hl => ?_)
                exact loop2 kn 0 M0 ls _ _ (by omega) (by rw [cpy_0]; exact (mUp_id h0_b5).symm) hM hS (lv_sub hl [0, 1, 2, 3, 4, 5, 6, 7, 8, 9] rfl)
              have loop1 : ∀ (n9 : Nat) (k9 : Nat) (CM9 : Nat → UInt64) (fa9 : Int32) (Mi : mMem) (ls : Array Slot) (H : Heap) (locs : List Loc), k9 + n9 = kn → sGo ci kf pi on (tb.map rw) ph le fu 0 kn = sGo ci kf pi on (tb.map rw) ph le fu k9 n9 → (∀ z, z < k9 → CM9 z = psO fu (sSm ci kf pi on (tb.map rw) ph le z).2.1) → Mi = pen M y b10 b11 b14 b15 (mO 8 [.ref b1, .ref b2, .ref b3, .ref b4, .ref b5, .int (nI nn), .ref b6, .ref b7, .ref b8, .ref b9, .ref b10, .ref b11, .int (nI nf), .ref b12, .ref b13, .int bd, .int st, .int fa9, .ref b14, .ref b15, .ref b16]) (mI E 12 (upd PH j (sSt ci kf pi on (tb.map rw) ph le k9).1)) (mDb E 12 (sLE ci LE j (sSt ci kf pi on (tb.map rw) ph le k9).2)) (mI E 3 (upd CT 2 (c4 + nI k9))) (mDb E 40 CM9) → mOK E.1 (mA M sz) Mi H → va_S (mA M sz) s.heap H locs → lv_has ls 10 [(9, .int (nI k9)), (8, .int 0), (7, .int (nI w)), (0, .ref y), (1, .int (nI j)), (2, .int wy), (3, .int f0), (4, .int b), (5, .int (nI a9)), (6, .int (nI kn))] → W p l e ({ frames := 4, cells := 0, slots := 0, locals := 97 } : Room) s m #[.ref y, .int (nI j), .int wy, .int f0, .int b, .int (nI a9), .int (nI kn)] below meth c H locs (0) (0) (MQ below (mQi E M sz (fun r u => r = aPlay (nn, ins, nf, fn, bk, rw, bd, st, c2, c3, c4) (nI j) wy f0 b (nI a9) (nI kn) ∧ mR E u y b1 b2 b3 b4 b5 b6 b7 b8 b9 b10 b11 b12 b13 b14 b15 b16 (nPlay (nn, ins, nf, fn, bk, rw, bd, st, c2, c3, c4) (nI j) wy f0 b (nI a9) (nI kn)) ∧ kept (nol y b1 b2 b3 b4 b5 b6 b7 b8 b9 b10 b11 b12 b13 b14 b15 b16) M u)) #[.ref y, .int (nI j), .int wy, .int f0, .int b, .int (nI a9), .int (nI kn)] s (0) (0) (mA M sz)) (F0 m 163 ls []) := by
                intro n9
                induction n9 with
                | zero =>
                  intro k9 CM9 fa9 Mi ls H locs hk9 hsg hCM eMi hM hS hl
                  have g_b1 : Mi b1 = some (mI E 10 B) := by rw [eMi]; exact pen_ne g0_b1 (nd_ne hnd 1 0 rfl rfl (by decide)) (nd_ne hnd 1 10 rfl rfl (by decide)) (nd_ne hnd 1 11 rfl rfl (by decide)) (nd_ne hnd 1 14 rfl rfl (by decide)) (nd_ne hnd 1 15 rfl rfl (by decide))
                  have g_b2 : Mi b2 = some (mI E 12 T) := by rw [eMi]; exact pen_ne g0_b2 (nd_ne hnd 2 0 rfl rfl (by decide)) (nd_ne hnd 2 10 rfl rfl (by decide)) (nd_ne hnd 2 11 rfl rfl (by decide)) (nd_ne hnd 2 14 rfl rfl (by decide)) (nd_ne hnd 2 15 rfl rfl (by decide))
                  have g_b3 : Mi b3 = some (mI E 24 LN) := by rw [eMi]; exact pen_ne g0_b3 (nd_ne hnd 3 0 rfl rfl (by decide)) (nd_ne hnd 3 10 rfl rfl (by decide)) (nd_ne hnd 3 11 rfl rfl (by decide)) (nd_ne hnd 3 14 rfl rfl (by decide)) (nd_ne hnd 3 15 rfl rfl (by decide))
                  have g_b4 : Mi b4 = some (mI E 24 SZ) := by rw [eMi]; exact pen_ne g0_b4 (nd_ne hnd 4 0 rfl rfl (by decide)) (nd_ne hnd 4 10 rfl rfl (by decide)) (nd_ne hnd 4 11 rfl rfl (by decide)) (nd_ne hnd 4 14 rfl rfl (by decide)) (nd_ne hnd 4 15 rfl rfl (by decide))
                  have g_b5 : Mi b5 = some (mJ E 960 SM) := by rw [eMi]; exact pen_ne g0_b5 (nd_ne hnd 5 0 rfl rfl (by decide)) (nd_ne hnd 5 10 rfl rfl (by decide)) (nd_ne hnd 5 11 rfl rfl (by decide)) (nd_ne hnd 5 14 rfl rfl (by decide)) (nd_ne hnd 5 15 rfl rfl (by decide))
                  have g_b6 : Mi b6 = some (mI E 12 SO) := by rw [eMi]; exact pen_ne g0_b6 (nd_ne hnd 6 0 rfl rfl (by decide)) (nd_ne hnd 6 10 rfl rfl (by decide)) (nd_ne hnd 6 11 rfl rfl (by decide)) (nd_ne hnd 6 14 rfl rfl (by decide)) (nd_ne hnd 6 15 rfl rfl (by decide))
                  have g_b7 : Mi b7 = some (mI E 48 KN) := by rw [eMi]; exact pen_ne g0_b7 (nd_ne hnd 7 0 rfl rfl (by decide)) (nd_ne hnd 7 10 rfl rfl (by decide)) (nd_ne hnd 7 11 rfl rfl (by decide)) (nd_ne hnd 7 14 rfl rfl (by decide)) (nd_ne hnd 7 15 rfl rfl (by decide))
                  have g_b8 : Mi b8 = some (mI E 12 PI) := by rw [eMi]; exact pen_ne g0_b8 (nd_ne hnd 8 0 rfl rfl (by decide)) (nd_ne hnd 8 10 rfl rfl (by decide)) (nd_ne hnd 8 11 rfl rfl (by decide)) (nd_ne hnd 8 14 rfl rfl (by decide)) (nd_ne hnd 8 15 rfl rfl (by decide))
                  have g_b9 : Mi b9 = some (mZ E 12 ON) := by rw [eMi]; exact pen_ne g0_b9 (nd_ne hnd 9 0 rfl rfl (by decide)) (nd_ne hnd 9 10 rfl rfl (by decide)) (nd_ne hnd 9 11 rfl rfl (by decide)) (nd_ne hnd 9 14 rfl rfl (by decide)) (nd_ne hnd 9 15 rfl rfl (by decide))
                  have g_b12 : Mi b12 = some (mI E 8 KD) := by rw [eMi]; exact pen_ne g0_b12 (nd_ne hnd 12 0 rfl rfl (by decide)) (nd_ne hnd 12 10 rfl rfl (by decide)) (nd_ne hnd 12 11 rfl rfl (by decide)) (nd_ne hnd 12 14 rfl rfl (by decide)) (nd_ne hnd 12 15 rfl rfl (by decide))
                  have g_b13 : Mi b13 = some (mI E 8 NM) := by rw [eMi]; exact pen_ne g0_b13 (nd_ne hnd 13 0 rfl rfl (by decide)) (nd_ne hnd 13 10 rfl rfl (by decide)) (nd_ne hnd 13 11 rfl rfl (by decide)) (nd_ne hnd 13 14 rfl rfl (by decide)) (nd_ne hnd 13 15 rfl rfl (by decide))
                  have g_b16 : Mi b16 = some (mJ E 40 MV) := by rw [eMi]; exact pen_ne g0_b16 (nd_ne hnd 16 0 rfl rfl (by decide)) (nd_ne hnd 16 10 rfl rfl (by decide)) (nd_ne hnd 16 11 rfl rfl (by decide)) (nd_ne hnd 16 14 rfl rfl (by decide)) (nd_ne hnd 16 15 rfl rfl (by decide))
                  have g_y : Mi y = some (mO 8 [.ref b1, .ref b2, .ref b3, .ref b4, .ref b5, .int (nI nn), .ref b6, .ref b7, .ref b8, .ref b9, .ref b10, .ref b11, .int (nI nf), .ref b12, .ref b13, .int bd, .int st, .int fa9, .ref b14, .ref b15, .ref b16]) := by rw [eMi]; exact mUp_at (nd_ne hnd 0 15 rfl rfl (by decide)) (mUp_at (nd_ne hnd 0 14 rfl rfl (by decide)) (tri_gp (nd_ne hnd 0 10 rfl rfl (by decide)) (nd_ne hnd 0 11 rfl rfl (by decide))))
                  have g_b10 : Mi b10 = some (mI E 12 (upd PH j (sSt ci kf pi on (tb.map rw) ph le k9).1)) := by rw [eMi]; exact mUp_at (nd_ne hnd 10 15 rfl rfl (by decide)) (mUp_at (nd_ne hnd 10 14 rfl rfl (by decide)) (tri_gx (nd_ne hnd 10 11 rfl rfl (by decide))))
                  have g_b11 : Mi b11 = some (mDb E 12 (sLE ci LE j (sSt ci kf pi on (tb.map rw) ph le k9).2)) := by rw [eMi]; exact mUp_at (nd_ne hnd 11 15 rfl rfl (by decide)) (mUp_at (nd_ne hnd 11 14 rfl rfl (by decide)) tri_ga)
                  have g_b14 : Mi b14 = some (mI E 3 (upd CT 2 (c4 + nI k9))) := by rw [eMi]; exact mUp_at (nd_ne hnd 14 15 rfl rfl (by decide)) (mUp_self _ _ _)
                  have g_b15 : Mi b15 = some (mDb E 40 CM9) := by rw [eMi]; exact mUp_self _ _ _
                  have hk : kept (nol y b1 b2 b3 b4 b5 b6 b7 b8 b9 b10 b11 b12 b13 b14 b15 b16) M Mi := (by rw [eMi]; exact ((kept.rf.tri (nol_in 0 rfl) (nol_in 10 rfl) (nol_in 11 rfl)).up (nol_in 14 rfl)).up (nol_in 15 rfl))
                  refine lv_iload hx hb dX10_play_163 (lv_at hl 0 rfl) ?_
                  refine lv_iload hx hb dX10_play_165 (lv_at hl 9 rfl) ?_
                  refine lv_icmp_ge (tgt := 240) hx hb dX10_play_167 (by decide) (fun _ => ?_) (fun h9 => False.elim (by revert h9; exact (fun h => h (nI_le (by omega) (by omega)))))
                  exact mid 0 k9 CM9 fa9 Mi ls _ _ (by rw [hsg]; rfl) (Or.inl rfl) (fun _ z hz => hCM z (by omega)) eMi hM hS (lv_sub hl [1, 2, 3, 4, 5, 6, 7, 8, 9] rfl)
                | succ n9 ih =>
                  intro k9 CM9 fa9 Mi ls H locs hk9 hsg hCM eMi hM hS hl
                  have g_b1 : Mi b1 = some (mI E 10 B) := by rw [eMi]; exact pen_ne g0_b1 (nd_ne hnd 1 0 rfl rfl (by decide)) (nd_ne hnd 1 10 rfl rfl (by decide)) (nd_ne hnd 1 11 rfl rfl (by decide)) (nd_ne hnd 1 14 rfl rfl (by decide)) (nd_ne hnd 1 15 rfl rfl (by decide))
                  have g_b2 : Mi b2 = some (mI E 12 T) := by rw [eMi]; exact pen_ne g0_b2 (nd_ne hnd 2 0 rfl rfl (by decide)) (nd_ne hnd 2 10 rfl rfl (by decide)) (nd_ne hnd 2 11 rfl rfl (by decide)) (nd_ne hnd 2 14 rfl rfl (by decide)) (nd_ne hnd 2 15 rfl rfl (by decide))
                  have g_b3 : Mi b3 = some (mI E 24 LN) := by rw [eMi]; exact pen_ne g0_b3 (nd_ne hnd 3 0 rfl rfl (by decide)) (nd_ne hnd 3 10 rfl rfl (by decide)) (nd_ne hnd 3 11 rfl rfl (by decide)) (nd_ne hnd 3 14 rfl rfl (by decide)) (nd_ne hnd 3 15 rfl rfl (by decide))
                  have g_b4 : Mi b4 = some (mI E 24 SZ) := by rw [eMi]; exact pen_ne g0_b4 (nd_ne hnd 4 0 rfl rfl (by decide)) (nd_ne hnd 4 10 rfl rfl (by decide)) (nd_ne hnd 4 11 rfl rfl (by decide)) (nd_ne hnd 4 14 rfl rfl (by decide)) (nd_ne hnd 4 15 rfl rfl (by decide))
                  have g_b5 : Mi b5 = some (mJ E 960 SM) := by rw [eMi]; exact pen_ne g0_b5 (nd_ne hnd 5 0 rfl rfl (by decide)) (nd_ne hnd 5 10 rfl rfl (by decide)) (nd_ne hnd 5 11 rfl rfl (by decide)) (nd_ne hnd 5 14 rfl rfl (by decide)) (nd_ne hnd 5 15 rfl rfl (by decide))
                  have g_b6 : Mi b6 = some (mI E 12 SO) := by rw [eMi]; exact pen_ne g0_b6 (nd_ne hnd 6 0 rfl rfl (by decide)) (nd_ne hnd 6 10 rfl rfl (by decide)) (nd_ne hnd 6 11 rfl rfl (by decide)) (nd_ne hnd 6 14 rfl rfl (by decide)) (nd_ne hnd 6 15 rfl rfl (by decide))
                  have g_b7 : Mi b7 = some (mI E 48 KN) := by rw [eMi]; exact pen_ne g0_b7 (nd_ne hnd 7 0 rfl rfl (by decide)) (nd_ne hnd 7 10 rfl rfl (by decide)) (nd_ne hnd 7 11 rfl rfl (by decide)) (nd_ne hnd 7 14 rfl rfl (by decide)) (nd_ne hnd 7 15 rfl rfl (by decide))
                  have g_b8 : Mi b8 = some (mI E 12 PI) := by rw [eMi]; exact pen_ne g0_b8 (nd_ne hnd 8 0 rfl rfl (by decide)) (nd_ne hnd 8 10 rfl rfl (by decide)) (nd_ne hnd 8 11 rfl rfl (by decide)) (nd_ne hnd 8 14 rfl rfl (by decide)) (nd_ne hnd 8 15 rfl rfl (by decide))
                  have g_b9 : Mi b9 = some (mZ E 12 ON) := by rw [eMi]; exact pen_ne g0_b9 (nd_ne hnd 9 0 rfl rfl (by decide)) (nd_ne hnd 9 10 rfl rfl (by decide)) (nd_ne hnd 9 11 rfl rfl (by decide)) (nd_ne hnd 9 14 rfl rfl (by decide)) (nd_ne hnd 9 15 rfl rfl (by decide))
                  have g_b12 : Mi b12 = some (mI E 8 KD) := by rw [eMi]; exact pen_ne g0_b12 (nd_ne hnd 12 0 rfl rfl (by decide)) (nd_ne hnd 12 10 rfl rfl (by decide)) (nd_ne hnd 12 11 rfl rfl (by decide)) (nd_ne hnd 12 14 rfl rfl (by decide)) (nd_ne hnd 12 15 rfl rfl (by decide))
                  have g_b13 : Mi b13 = some (mI E 8 NM) := by rw [eMi]; exact pen_ne g0_b13 (nd_ne hnd 13 0 rfl rfl (by decide)) (nd_ne hnd 13 10 rfl rfl (by decide)) (nd_ne hnd 13 11 rfl rfl (by decide)) (nd_ne hnd 13 14 rfl rfl (by decide)) (nd_ne hnd 13 15 rfl rfl (by decide))
                  have g_b16 : Mi b16 = some (mJ E 40 MV) := by rw [eMi]; exact pen_ne g0_b16 (nd_ne hnd 16 0 rfl rfl (by decide)) (nd_ne hnd 16 10 rfl rfl (by decide)) (nd_ne hnd 16 11 rfl rfl (by decide)) (nd_ne hnd 16 14 rfl rfl (by decide)) (nd_ne hnd 16 15 rfl rfl (by decide))
                  have g_y : Mi y = some (mO 8 [.ref b1, .ref b2, .ref b3, .ref b4, .ref b5, .int (nI nn), .ref b6, .ref b7, .ref b8, .ref b9, .ref b10, .ref b11, .int (nI nf), .ref b12, .ref b13, .int bd, .int st, .int fa9, .ref b14, .ref b15, .ref b16]) := by rw [eMi]; exact mUp_at (nd_ne hnd 0 15 rfl rfl (by decide)) (mUp_at (nd_ne hnd 0 14 rfl rfl (by decide)) (tri_gp (nd_ne hnd 0 10 rfl rfl (by decide)) (nd_ne hnd 0 11 rfl rfl (by decide))))
                  have g_b10 : Mi b10 = some (mI E 12 (upd PH j (sSt ci kf pi on (tb.map rw) ph le k9).1)) := by rw [eMi]; exact mUp_at (nd_ne hnd 10 15 rfl rfl (by decide)) (mUp_at (nd_ne hnd 10 14 rfl rfl (by decide)) (tri_gx (nd_ne hnd 10 11 rfl rfl (by decide))))
                  have g_b11 : Mi b11 = some (mDb E 12 (sLE ci LE j (sSt ci kf pi on (tb.map rw) ph le k9).2)) := by rw [eMi]; exact mUp_at (nd_ne hnd 11 15 rfl rfl (by decide)) (mUp_at (nd_ne hnd 11 14 rfl rfl (by decide)) tri_ga)
                  have g_b14 : Mi b14 = some (mI E 3 (upd CT 2 (c4 + nI k9))) := by rw [eMi]; exact mUp_at (nd_ne hnd 14 15 rfl rfl (by decide)) (mUp_self _ _ _)
                  have g_b15 : Mi b15 = some (mDb E 40 CM9) := by rw [eMi]; exact mUp_self _ _ _
                  have hk : kept (nol y b1 b2 b3 b4 b5 b6 b7 b8 b9 b10 b11 b12 b13 b14 b15 b16) M Mi := (by rw [eMi]; exact ((kept.rf.tri (nol_in 0 rfl) (nol_in 10 rfl) (nol_in 11 rfl)).up (nol_in 14 rfl)).up (nol_in 15 rfl))
                  refine lv_iload hx hb dX10_play_163 (lv_at hl 0 rfl) ?_
                  refine lv_iload hx hb dX10_play_165 (lv_at hl 9 rfl) ?_
                  refine lv_icmp_ge (tgt := 240) hx hb dX10_play_167 (by decide) (fun h9 => False.elim (by revert h9; exact (fun h => absurd h (nI_ge (by omega) (by omega))))) (fun _ => ?_)
                  refine lv_iload hx hb dX10_play_170 (lv_at hl 1 rfl) ?_
                  refine lv_if_ne (tgt := 240) hx hb dX10_play_172 (by decide) (fun h9 => False.elim (by revert h9; exact (fun h => h rfl))) (fun _ => ?_)
                  refine lv_aload_n hx hb dX10_play_175 rfl (lv_at hl 3 rfl) ?_
                  refine m_get (ci := 8) (v := .ref b14) (C := RX10) (T := TX10) (N := 21) hx hb hts in_X10_play_X10 hown hE hM g_y rfl 18 (by decide) (hts (.fieldLink RX10 52 "CallWays2Model" "counts" "[I") (by decide +kernel)) (fun _ h9 => h9) rfl dX10_play_176 ?_
                  refine lv_iconst (v := 2) hx hb dX10_play_179 (by decide) ?_
                  refine lv_dup2_11 hx hb dX10_play_180 rfl rfl ?_
                  refine m_iald hx hb hE hM g_b14 in3_2 dX10_play_181 ?_
                  rw [show (upd CT 2 (c4 + nI k9)) (2 : Int32).toNatClampNeg = c4 + nI k9 from by show upd CT 2 (c4 + nI k9) 2 = _; exact upd_s]
                  refine lv_iconst (v := 1) hx hb dX10_play_182 (by decide) ?_
                  refine lv_iadd hx hb dX10_play_183 ?_
                  refine m_iast hx hb hE hM hS g_b14 in3_2 dX10_play_184 (fun H locs hM hS => ?_)
                  rw [show upd (upd CT 2 (c4 + nI k9)) (2 : Int32).toNatClampNeg ((c4 + nI k9) + 1) = upd CT 2 (c4 + nI (k9 + 1)) from by show upd (upd CT 2 (c4 + nI k9)) 2 (c4 + nI k9 + 1) = _; rw [upd_up, c4_add]] at hM
                  have hM : mOK E.1 (mA M sz) (mUp Mi b14 (mI E 3 (upd CT 2 (c4 + nI (k9 + 1))))) H := hM
                  obtain ⟨M12, eM12⟩ : ∃ z, z = mUp Mi b14 (mI E 3 (upd CT 2 (c4 + nI (k9 + 1)))) := ⟨_, rfl⟩
                  rw [← eM12] at hM
                  have g_y_ : M12 y = some (mO 8 [.ref b1, .ref b2, .ref b3, .ref b4, .ref b5, .int (nI nn), .ref b6, .ref b7, .ref b8, .ref b9, .ref b10, .ref b11, .int (nI nf), .ref b12, .ref b13, .int bd, .int st, .int fa9, .ref b14, .ref b15, .ref b16]) := by rw [eM12]; exact mUp_at (nd_ne hnd 0 14 rfl rfl (by decide)) g_y
                  have g_b1_ : M12 b1 = some (mI E 10 B) := by rw [eM12]; exact mUp_at (nd_ne hnd 1 14 rfl rfl (by decide)) g_b1
                  have g_b2_ : M12 b2 = some (mI E 12 T) := by rw [eM12]; exact mUp_at (nd_ne hnd 2 14 rfl rfl (by decide)) g_b2
                  have g_b3_ : M12 b3 = some (mI E 24 LN) := by rw [eM12]; exact mUp_at (nd_ne hnd 3 14 rfl rfl (by decide)) g_b3
                  have g_b4_ : M12 b4 = some (mI E 24 SZ) := by rw [eM12]; exact mUp_at (nd_ne hnd 4 14 rfl rfl (by decide)) g_b4
                  have g_b5_ : M12 b5 = some (mJ E 960 SM) := by rw [eM12]; exact mUp_at (nd_ne hnd 5 14 rfl rfl (by decide)) g_b5
                  have g_b6_ : M12 b6 = some (mI E 12 SO) := by rw [eM12]; exact mUp_at (nd_ne hnd 6 14 rfl rfl (by decide)) g_b6
                  have g_b7_ : M12 b7 = some (mI E 48 KN) := by rw [eM12]; exact mUp_at (nd_ne hnd 7 14 rfl rfl (by decide)) g_b7
                  have g_b8_ : M12 b8 = some (mI E 12 PI) := by rw [eM12]; exact mUp_at (nd_ne hnd 8 14 rfl rfl (by decide)) g_b8
                  have g_b9_ : M12 b9 = some (mZ E 12 ON) := by rw [eM12]; exact mUp_at (nd_ne hnd 9 14 rfl rfl (by decide)) g_b9
                  have g_b10_ : M12 b10 = some (mI E 12 (upd PH j (sSt ci kf pi on (tb.map rw) ph le k9).1)) := by rw [eM12]; exact mUp_at (nd_ne hnd 10 14 rfl rfl (by decide)) g_b10
                  have g_b11_ : M12 b11 = some (mDb E 12 (sLE ci LE j (sSt ci kf pi on (tb.map rw) ph le k9).2)) := by rw [eM12]; exact mUp_at (nd_ne hnd 11 14 rfl rfl (by decide)) g_b11
                  have g_b12_ : M12 b12 = some (mI E 8 KD) := by rw [eM12]; exact mUp_at (nd_ne hnd 12 14 rfl rfl (by decide)) g_b12
                  have g_b13_ : M12 b13 = some (mI E 8 NM) := by rw [eM12]; exact mUp_at (nd_ne hnd 13 14 rfl rfl (by decide)) g_b13
                  have g_b15_ : M12 b15 = some (mDb E 40 CM9) := by rw [eM12]; exact mUp_at (nd_ne hnd 15 14 rfl rfl (by decide)) g_b15
                  have g_b16_ : M12 b16 = some (mJ E 40 MV) := by rw [eM12]; exact mUp_at (nd_ne hnd 16 14 rfl rfl (by decide)) g_b16
                  have g_y := g_y_
                  have g_b1 := g_b1_
                  have g_b2 := g_b2_
                  have g_b3 := g_b3_
                  have g_b4 := g_b4_
                  have g_b5 := g_b5_
                  have g_b6 := g_b6_
                  have g_b7 := g_b7_
                  have g_b8 := g_b8_
                  have g_b9 := g_b9_
                  have g_b10 := g_b10_
                  have g_b11 := g_b11_
                  have g_b12 := g_b12_
                  have g_b13 := g_b13_
                  have g_b15 := g_b15_
                  have g_b16 := g_b16_
                  have g_b14 : M12 b14 = some (mI E 3 (upd CT 2 (c4 + nI (k9 + 1)))) := by rw [eM12]; exact mUp_self _ _ _
                  have hk : kept (nol y b1 b2 b3 b4 b5 b6 b7 b8 b9 b10 b11 b12 b13 b14 b15 b16) M M12 := (by rw [eM12]; exact hk.up (nol_in 14 rfl))
                  refine lv_aload_n hx hb dX10_play_185 rfl (lv_at hl 3 rfl) ?_
                  refine m_get (ci := 8) (v := .ref b15) (C := RX10) (T := TX10) (N := 21) hx hb hts in_X10_play_X10 hown hE hM g_y rfl 19 (by decide) (hts (.fieldLink RX10 55 "CallWays2Model" "come" "[D") (by decide +kernel)) (fun _ h9 => h9) rfl dX10_play_186 ?_
                  refine lv_iload hx hb dX10_play_189 (lv_at hl 0 rfl) ?_
                  refine lv_aload_n hx hb dX10_play_191 rfl (lv_at hl 3 rfl) ?_
                  refine lv_iload_n hx hb dX10_play_192 rfl (lv_at hl 4 rfl) ?_
                  refine m_calld (va_runV (As := [.int (nI j)]) (rest := [.int (nI k9), .ref b15]) ⟨hx, hb, hml, hown, hts⟩ (c_X10_sample l E M12 H.size y b1 b2 b3 b4 b5 b6 b7 b8 b9 b10 b11 b12 b13 b14 b15 b16 (nI nn) (nI nf) bd st fa9 T LN SZ SM SO KN PI ON (upd PH j (sSt ci kf pi on (tb.map rw) ph le k9).1) (sLE ci LE j (sSt ci kf pi on (tb.map rw) ph le k9).2) j (by omega) ci hci kf pi on (sSt ci kf pi on (tb.map rw) ph le k9).1 (sSt ci kf pi on (tb.map rw) ph le k9).2 tb rw (hSo hj) hKn hPi hOn upd_s (fun z => sLE_s z) (hst k9) (by rw [hT j (by omega), htbj]) hTb (nd_ne hnd 2 10 rfl rfl (by decide)) (nd_ne hnd 6 10 rfl rfl (by decide)) (nd_ne hnd 8 10 rfl rfl (by decide)) (nd_ne hnd 9 10 rfl rfl (by decide)) g_y g_b2 g_b3 g_b4 g_b5 g_b6 g_b7 g_b8 g_b9 g_b10 g_b11) (cwV 1 hts gX10_play_X10_sample rfl rfl rfl (by decide +kernel) ⟨Nat.le_of_ble_eq_true rfl, Nat.le_of_ble_eq_true rfl⟩) (m_preV hE hM g_y rfl) rfl rfl hl.1 rfl (lv_room (Nat.le_of_ble_eq_true rfl)) dX10_play_193 ⟨Nat.le_of_ble_eq_true rfl, Nat.le_of_ble_eq_true rfl⟩) hM hS hA (fun r6 M13 H locs hw hM hS => ?_)
                  obtain ⟨e_r6, eM13⟩ := hw
                  subst e_r6
                  have g_b1_ : M13 b1 = some (mI E 10 B) := by rw [eM13]; exact tri_ne g_b1 (nd_ne hnd 1 0 rfl rfl (by decide)) (nd_ne hnd 1 10 rfl rfl (by decide)) (nd_ne hnd 1 11 rfl rfl (by decide))
                  have g_b2_ : M13 b2 = some (mI E 12 T) := by rw [eM13]; exact tri_ne g_b2 (nd_ne hnd 2 0 rfl rfl (by decide)) (nd_ne hnd 2 10 rfl rfl (by decide)) (nd_ne hnd 2 11 rfl rfl (by decide))
                  have g_b3_ : M13 b3 = some (mI E 24 LN) := by rw [eM13]; exact tri_ne g_b3 (nd_ne hnd 3 0 rfl rfl (by decide)) (nd_ne hnd 3 10 rfl rfl (by decide)) (nd_ne hnd 3 11 rfl rfl (by decide))
                  have g_b4_ : M13 b4 = some (mI E 24 SZ) := by rw [eM13]; exact tri_ne g_b4 (nd_ne hnd 4 0 rfl rfl (by decide)) (nd_ne hnd 4 10 rfl rfl (by decide)) (nd_ne hnd 4 11 rfl rfl (by decide))
                  have g_b5_ : M13 b5 = some (mJ E 960 SM) := by rw [eM13]; exact tri_ne g_b5 (nd_ne hnd 5 0 rfl rfl (by decide)) (nd_ne hnd 5 10 rfl rfl (by decide)) (nd_ne hnd 5 11 rfl rfl (by decide))
                  have g_b6_ : M13 b6 = some (mI E 12 SO) := by rw [eM13]; exact tri_ne g_b6 (nd_ne hnd 6 0 rfl rfl (by decide)) (nd_ne hnd 6 10 rfl rfl (by decide)) (nd_ne hnd 6 11 rfl rfl (by decide))
                  have g_b7_ : M13 b7 = some (mI E 48 KN) := by rw [eM13]; exact tri_ne g_b7 (nd_ne hnd 7 0 rfl rfl (by decide)) (nd_ne hnd 7 10 rfl rfl (by decide)) (nd_ne hnd 7 11 rfl rfl (by decide))
                  have g_b8_ : M13 b8 = some (mI E 12 PI) := by rw [eM13]; exact tri_ne g_b8 (nd_ne hnd 8 0 rfl rfl (by decide)) (nd_ne hnd 8 10 rfl rfl (by decide)) (nd_ne hnd 8 11 rfl rfl (by decide))
                  have g_b9_ : M13 b9 = some (mZ E 12 ON) := by rw [eM13]; exact tri_ne g_b9 (nd_ne hnd 9 0 rfl rfl (by decide)) (nd_ne hnd 9 10 rfl rfl (by decide)) (nd_ne hnd 9 11 rfl rfl (by decide))
                  have g_b12_ : M13 b12 = some (mI E 8 KD) := by rw [eM13]; exact tri_ne g_b12 (nd_ne hnd 12 0 rfl rfl (by decide)) (nd_ne hnd 12 10 rfl rfl (by decide)) (nd_ne hnd 12 11 rfl rfl (by decide))
                  have g_b13_ : M13 b13 = some (mI E 8 NM) := by rw [eM13]; exact tri_ne g_b13 (nd_ne hnd 13 0 rfl rfl (by decide)) (nd_ne hnd 13 10 rfl rfl (by decide)) (nd_ne hnd 13 11 rfl rfl (by decide))
                  have g_b14_ : M13 b14 = some (mI E 3 (upd CT 2 (c4 + nI (k9 + 1)))) := by rw [eM13]; exact tri_ne g_b14 (nd_ne hnd 14 0 rfl rfl (by decide)) (nd_ne hnd 14 10 rfl rfl (by decide)) (nd_ne hnd 14 11 rfl rfl (by decide))
                  have g_b15_ : M13 b15 = some (mDb E 40 CM9) := by rw [eM13]; exact tri_ne g_b15 (nd_ne hnd 15 0 rfl rfl (by decide)) (nd_ne hnd 15 10 rfl rfl (by decide)) (nd_ne hnd 15 11 rfl rfl (by decide))
                  have g_b16_ : M13 b16 = some (mJ E 40 MV) := by rw [eM13]; exact tri_ne g_b16 (nd_ne hnd 16 0 rfl rfl (by decide)) (nd_ne hnd 16 10 rfl rfl (by decide)) (nd_ne hnd 16 11 rfl rfl (by decide))
                  have g_b1 := g_b1_
                  have g_b2 := g_b2_
                  have g_b3 := g_b3_
                  have g_b4 := g_b4_
                  have g_b5 := g_b5_
                  have g_b6 := g_b6_
                  have g_b7 := g_b7_
                  have g_b8 := g_b8_
                  have g_b9 := g_b9_
                  have g_b12 := g_b12_
                  have g_b13 := g_b13_
                  have g_b14 := g_b14_
                  have g_b15 := g_b15_
                  have g_b16 := g_b16_
                  have g_y : M13 y = some (mO 8 [.ref b1, .ref b2, .ref b3, .ref b4, .ref b5, .int (nI nn), .ref b6, .ref b7, .ref b8, .ref b9, .ref b10, .ref b11, .int (nI nf), .ref b12, .ref b13, .int bd, .int st, .int ((sGive ci kf pi on (sSt ci kf pi on (tb.map rw) ph le k9).1 (sSt ci kf pi on (tb.map rw) ph le k9).2 (tb.map rw)).1), .ref b14, .ref b15, .ref b16]) := by rw [eM13]; exact tri_gp (nd_ne hnd 0 10 rfl rfl (by decide)) (nd_ne hnd 0 11 rfl rfl (by decide))
                  have g_b10 : M13 b10 = some (mI E 12 (upd (upd PH j (sSt ci kf pi on (tb.map rw) ph le k9).1) j ((sSt ci kf pi on (tb.map rw) ph le k9).1 + 1))) := by rw [eM13]; exact tri_gx (nd_ne hnd 10 11 rfl rfl (by decide))
                  have g_b11 : M13 b11 = some (mDb E 12 (sLE ci (sLE ci LE j (sSt ci kf pi on (tb.map rw) ph le k9).2) j (sGive ci kf pi on (sSt ci kf pi on (tb.map rw) ph le k9).1 (sSt ci kf pi on (tb.map rw) ph le k9).2 (tb.map rw)).2.2)) := by rw [eM13]; exact tri_ga
                  have hk : kept (nol y b1 b2 b3 b4 b5 b6 b7 b8 b9 b10 b11 b12 b13 b14 b15 b16) M M13 := (by rw [eM13]; exact hk.tri (nol_in 0 rfl) (nol_in 10 rfl) (nol_in 11 rfl))
                  refine m_dast hx hb hE hM hS g_b15 (vp_in_nI (by omega) (by decide)) dX10_play_196 (fun H locs hM hS => ?_)
                  rw [show vf_upd CM9 (nI k9).toNatClampNeg ((sGive ci kf pi on (sSt ci kf pi on (tb.map rw) ph le k9).1 (sSt ci kf pi on (tb.map rw) ph le k9).2 (tb.map rw)).2.1) = vf_upd CM9 k9 (sGive ci kf pi on (sSt ci kf pi on (tb.map rw) ph le k9).1 (sSt ci kf pi on (tb.map rw) ph le k9).2 (tb.map rw)).2.1 from by rw [nI_clamp (by omega)]] at hM
                  have hM : mOK E.1 (mA M sz) (mUp M13 b15 (mDb E 40 (vf_upd CM9 k9 (sGive ci kf pi on (sSt ci kf pi on (tb.map rw) ph le k9).1 (sSt ci kf pi on (tb.map rw) ph le k9).2 (tb.map rw)).2.1))) H := hM
                  obtain ⟨M14, eM14⟩ : ∃ z, z = mUp M13 b15 (mDb E 40 (vf_upd CM9 k9 (sGive ci kf pi on (sSt ci kf pi on (tb.map rw) ph le k9).1 (sSt ci kf pi on (tb.map rw) ph le k9).2 (tb.map rw)).2.1)) := ⟨_, rfl⟩
                  rw [← eM14] at hM
                  have g_y_ : M14 y = some (mO 8 [.ref b1, .ref b2, .ref b3, .ref b4, .ref b5, .int (nI nn), .ref b6, .ref b7, .ref b8, .ref b9, .ref b10, .ref b11, .int (nI nf), .ref b12, .ref b13, .int bd, .int st, .int ((sGive ci kf pi on (sSt ci kf pi on (tb.map rw) ph le k9).1 (sSt ci kf pi on (tb.map rw) ph le k9).2 (tb.map rw)).1), .ref b14, .ref b15, .ref b16]) := by rw [eM14]; exact mUp_at (nd_ne hnd 0 15 rfl rfl (by decide)) g_y
                  have g_b1_ : M14 b1 = some (mI E 10 B) := by rw [eM14]; exact mUp_at (nd_ne hnd 1 15 rfl rfl (by decide)) g_b1
                  have g_b2_ : M14 b2 = some (mI E 12 T) := by rw [eM14]; exact mUp_at (nd_ne hnd 2 15 rfl rfl (by decide)) g_b2
                  have g_b3_ : M14 b3 = some (mI E 24 LN) := by rw [eM14]; exact mUp_at (nd_ne hnd 3 15 rfl rfl (by decide)) g_b3
                  have g_b4_ : M14 b4 = some (mI E 24 SZ) := by rw [eM14]; exact mUp_at (nd_ne hnd 4 15 rfl rfl (by decide)) g_b4
                  have g_b5_ : M14 b5 = some (mJ E 960 SM) := by rw [eM14]; exact mUp_at (nd_ne hnd 5 15 rfl rfl (by decide)) g_b5
                  have g_b6_ : M14 b6 = some (mI E 12 SO) := by rw [eM14]; exact mUp_at (nd_ne hnd 6 15 rfl rfl (by decide)) g_b6
                  have g_b7_ : M14 b7 = some (mI E 48 KN) := by rw [eM14]; exact mUp_at (nd_ne hnd 7 15 rfl rfl (by decide)) g_b7
                  have g_b8_ : M14 b8 = some (mI E 12 PI) := by rw [eM14]; exact mUp_at (nd_ne hnd 8 15 rfl rfl (by decide)) g_b8
                  have g_b9_ : M14 b9 = some (mZ E 12 ON) := by rw [eM14]; exact mUp_at (nd_ne hnd 9 15 rfl rfl (by decide)) g_b9
                  have g_b10_ : M14 b10 = some (mI E 12 (upd (upd PH j (sSt ci kf pi on (tb.map rw) ph le k9).1) j ((sSt ci kf pi on (tb.map rw) ph le k9).1 + 1))) := by rw [eM14]; exact mUp_at (nd_ne hnd 10 15 rfl rfl (by decide)) g_b10
                  have g_b11_ : M14 b11 = some (mDb E 12 (sLE ci (sLE ci LE j (sSt ci kf pi on (tb.map rw) ph le k9).2) j (sGive ci kf pi on (sSt ci kf pi on (tb.map rw) ph le k9).1 (sSt ci kf pi on (tb.map rw) ph le k9).2 (tb.map rw)).2.2)) := by rw [eM14]; exact mUp_at (nd_ne hnd 11 15 rfl rfl (by decide)) g_b11
                  have g_b12_ : M14 b12 = some (mI E 8 KD) := by rw [eM14]; exact mUp_at (nd_ne hnd 12 15 rfl rfl (by decide)) g_b12
                  have g_b13_ : M14 b13 = some (mI E 8 NM) := by rw [eM14]; exact mUp_at (nd_ne hnd 13 15 rfl rfl (by decide)) g_b13
                  have g_b14_ : M14 b14 = some (mI E 3 (upd CT 2 (c4 + nI (k9 + 1)))) := by rw [eM14]; exact mUp_at (nd_ne hnd 14 15 rfl rfl (by decide)) g_b14
                  have g_b16_ : M14 b16 = some (mJ E 40 MV) := by rw [eM14]; exact mUp_at (nd_ne hnd 16 15 rfl rfl (by decide)) g_b16
                  have g_y := g_y_
                  have g_b1 := g_b1_
                  have g_b2 := g_b2_
                  have g_b3 := g_b3_
                  have g_b4 := g_b4_
                  have g_b5 := g_b5_
                  have g_b6 := g_b6_
                  have g_b7 := g_b7_
                  have g_b8 := g_b8_
                  have g_b9 := g_b9_
                  have g_b10 := g_b10_
                  have g_b11 := g_b11_
                  have g_b12 := g_b12_
                  have g_b13 := g_b13_
                  have g_b14 := g_b14_
                  have g_b16 := g_b16_
                  have g_b15 : M14 b15 = some (mDb E 40 (vf_upd CM9 k9 (sGive ci kf pi on (sSt ci kf pi on (tb.map rw) ph le k9).1 (sSt ci kf pi on (tb.map rw) ph le k9).2 (tb.map rw)).2.1)) := by rw [eM14]; exact mUp_self _ _ _
                  have hk : kept (nol y b1 b2 b3 b4 b5 b6 b7 b8 b9 b10 b11 b12 b13 b14 b15 b16) M M14 := (by rw [eM14]; exact hk.up (nol_in 15 rfl))
                  refine lv_aload_n hx hb dX10_play_197 rfl (lv_at hl 3 rfl) ?_
                  refine m_get (ci := 8) (v := .int ((sGive ci kf pi on (sSt ci kf pi on (tb.map rw) ph le k9).1 (sSt ci kf pi on (tb.map rw) ph le k9).2 (tb.map rw)).1)) (C := RX10) (T := TX10) (N := 21) hx hb hts in_X10_play_X10 hown hE hM g_y rfl 17 (by decide) (hts (.fieldLink RX10 112 "CallWays2Model" "failure" "I") (by decide +kernel)) (fun _ h9 => h9) rfl dX10_play_198 ?_
                  refine lv_if_ne (tgt := 228) hx hb dX10_play_201 (by decide) (fun c_201 => ?_) (fun c_201 => ?_)
                  · skip
                    refine lv_aload_n hx hb dX10_play_228 rfl (lv_at hl 3 rfl) ?_
                    refine m_get (ci := 8) (v := .int ((sGive ci kf pi on (sSt ci kf pi on (tb.map rw) ph le k9).1 (sSt ci kf pi on (tb.map rw) ph le k9).2 (tb.map rw)).1)) (C := RX10) (T := TX10) (N := 21) hx hb hts in_X10_play_X10 hown hE hM g_y rfl 17 (by decide) (hts (.fieldLink RX10 112 "CallWays2Model" "failure" "I") (by decide +kernel)) (fun _ h9 => h9) rfl dX10_play_229 ?_
                    refine lv_istore (lv' := [(8, .int ((sGive ci kf pi on (sSt ci kf pi on (tb.map rw) ph le k9).1 (sSt ci kf pi on (tb.map rw) ph le k9).2 (tb.map rw)).1)), (9, .int (nI k9)), (7, .int (nI w)), (0, .ref y), (1, .int (nI j)), (2, .int wy), (3, .int f0), (4, .int b), (5, .int (nI a9)), (6, .int (nI kn))]) hx hb dX10_play_232 hl (by decide) rfl (fun ls hl => ?_)
                    refine lv_iinc (v := ((nI k9) + 1)) (lv' := [(9, .int ((nI k9) + 1)), (8, .int ((sGive ci kf pi on (sSt ci kf pi on (tb.map rw) ph le k9).1 (sSt ci kf pi on (tb.map rw) ph le k9).2 (tb.map rw)).1)), (7, .int (nI w)), (0, .ref y), (1, .int (nI j)), (2, .int wy), (3, .int f0), (4, .int b), (5, .int (nI a9)), (6, .int (nI kn))]) hx hb dX10_play_234 hl (k := 1) rfl rfl (by decide) rfl (fun ls hl => ?_)
                    refine lv_goto (tgt := 163) hx hb dX10_play_237 (by decide) ?_
                    refine lv_iload hx hb dX10_play_163 (lv_at hl 0 rfl) ?_
                    refine lv_iload hx hb dX10_play_165 (lv_at hl 9 rfl) ?_
                    refine lv_icmp_ge (tgt := 240) hx hb dX10_play_167 (by decide) (fun c_167 => ?_) (fun c_167 => ?_)
                    · skip
                      exact mid ((sGive ci kf pi on (sSt ci kf pi on (tb.map rw) ph le k9).1 (sSt ci kf pi on (tb.map rw) ph le k9).2 (tb.map rw)).1) (k9 + 1) (vf_upd CM9 k9 (sGive ci kf pi on (sSt ci kf pi on (tb.map rw) ph le k9).1 (sSt ci kf pi on (tb.map rw) ph le k9).2 (tb.map rw)).2.1) ((sGive ci kf pi on (sSt ci kf pi on (tb.map rw) ph le k9).1 (sSt ci kf pi on (tb.map rw) ph le k9).2 (tb.map rw)).1) M14 ls _ _ (by rw [hsg, go_f c_201]; rfl) sG_neg (fun z => absurd z c_201) (by rw [eM14, eM13, eM12, eMi, pen_c hd5, pen_tri hd5, pen_d]; simp only [upd_up, sLE_up]; rfl) hM hS (lv_sub hl [1, 2, 3, 4, 5, 6, 7, 8, 9] rfl)
                    · skip
                      refine lv_iload hx hb dX10_play_170 (lv_at hl 1 rfl) ?_
                      refine lv_if_ne (tgt := 240) hx hb dX10_play_172 (by decide) (fun _ => ?_) (fun h9 => False.elim (by revert h9; exact (fun h => c_201 h)))
                      exact mid ((sGive ci kf pi on (sSt ci kf pi on (tb.map rw) ph le k9).1 (sSt ci kf pi on (tb.map rw) ph le k9).2 (tb.map rw)).1) (k9 + 1) (vf_upd CM9 k9 (sGive ci kf pi on (sSt ci kf pi on (tb.map rw) ph le k9).1 (sSt ci kf pi on (tb.map rw) ph le k9).2 (tb.map rw)).2.1) ((sGive ci kf pi on (sSt ci kf pi on (tb.map rw) ph le k9).1 (sSt ci kf pi on (tb.map rw) ph le k9).2 (tb.map rw)).1) M14 ls _ _ (by rw [hsg, go_f c_201]; rfl) sG_neg (fun z => absurd z c_201) (by rw [eM14, eM13, eM12, eMi, pen_c hd5, pen_tri hd5, pen_d]; simp only [upd_up, sLE_up]; rfl) hM hS (lv_sub hl [1, 2, 3, 4, 5, 6, 7, 8, 9] rfl)
                  · skip
                    have hg0 : (sGive ci kf pi on (sSt ci kf pi on (tb.map rw) ph le k9).1 (sSt ci kf pi on (tb.map rw) ph le k9).2 (tb.map rw)).1 = 0 := c_201
                    refine lv_iload_n hx hb dX10_play_204 rfl (lv_at hl 5 rfl) ?_
                    refine lv_iconst (v := 2) hx hb dX10_play_205 (by decide) ?_
                    refine lv_icmp_ne (tgt := 228) hx hb dX10_play_206 (by decide) (fun _ => ?_) (fun h9 => False.elim (by revert h9; exact (fun h => hw2 h)))
                    refine lv_aload_n hx hb dX10_play_228 rfl (lv_at hl 3 rfl) ?_
                    refine m_get (ci := 8) (v := .int ((sGive ci kf pi on (sSt ci kf pi on (tb.map rw) ph le k9).1 (sSt ci kf pi on (tb.map rw) ph le k9).2 (tb.map rw)).1)) (C := RX10) (T := TX10) (N := 21) hx hb hts in_X10_play_X10 hown hE hM g_y rfl 17 (by decide) (hts (.fieldLink RX10 112 "CallWays2Model" "failure" "I") (by decide +kernel)) (fun _ h9 => h9) rfl dX10_play_229 ?_
                    refine lv_istore (lv' := [(8, .int ((sGive ci kf pi on (sSt ci kf pi on (tb.map rw) ph le k9).1 (sSt ci kf pi on (tb.map rw) ph le k9).2 (tb.map rw)).1)), (9, .int (nI k9)), (7, .int (nI w)), (0, .ref y), (1, .int (nI j)), (2, .int wy), (3, .int f0), (4, .int b), (5, .int (nI a9)), (6, .int (nI kn))]) hx hb dX10_play_232 hl (by decide) rfl (fun ls hl => ?_)
                    refine lv_iinc (v := ((nI k9) + 1)) (lv' := [(9, .int ((nI k9) + 1)), (8, .int ((sGive ci kf pi on (sSt ci kf pi on (tb.map rw) ph le k9).1 (sSt ci kf pi on (tb.map rw) ph le k9).2 (tb.map rw)).1)), (7, .int (nI w)), (0, .ref y), (1, .int (nI j)), (2, .int wy), (3, .int f0), (4, .int b), (5, .int (nI a9)), (6, .int (nI kn))]) hx hb dX10_play_234 hl (k := 1) rfl rfl (by decide) rfl (fun ls hl => ?_)
                    refine lv_goto (tgt := 163) hx hb dX10_play_237 (by decide) ?_
                    rw [nI_1, hg0] at hl
                    exact ih (k9 + 1) (vf_upd CM9 k9 (sGive ci kf pi on (sSt ci kf pi on (tb.map rw) ph le k9).1 (sSt ci kf pi on (tb.map rw) ph le k9).2 (tb.map rw)).2.1) ((sGive ci kf pi on (sSt ci kf pi on (tb.map rw) ph le k9).1 (sSt ci kf pi on (tb.map rw) ph le k9).2 (tb.map rw)).1) M14 ls _ _ (by omega) (by rw [hsg, go_y hg0 (by rw [efu2]; simp [rfO])]) (fun z hz => (by by_cases hzk : z = k9; exact (by rw [hzk, vfu_s]; rw [efu2]; rfl); exact (by rw [vfu_o hzk]; exact hCM z (by omega)))) (by rw [eM14, eM13, eM12, eMi, pen_c hd5, pen_tri hd5, pen_d]; simp only [upd_up, sLE_up]; rfl) hM hS (lv_sub hl [0, 1, 2, 3, 4, 5, 6, 7, 8, 9] rfl)
              refine lv_iconst (v := 0) hx hb dX10_play_160 (by decide) ?_
              refine lv_istore (lv' := [(9, .int 0), (8, .int 0), (7, .int (nI w)), (0, .ref y), (1, .int (nI j)), (2, .int wy), (3, .int f0), (4, .int b), (5, .int (nI a9)), (6, .int (nI kn))]) hx hb dX10_play_161 hl (by decide) rfl (fun ls hl => ?_)
              exact loop1 kn 0 CM fa M ls _ _ (by omega) rfl (fun z hz => absurd hz (by omega)) (by rw [show (sSt ci kf pi on (tb.map rw) ph le 0).1 = ph from rfl, show (sSt ci kf pi on (tb.map rw) ph le 0).2 = le from rfl, up_id hPh, sLE_id (fun z => hLe (Or.inr z)), show c4 + nI 0 = c4 from Int32.add_zero c4, up_id hc4]; exact (pen_id g_y g_b10 g_b11 g_b14 g_b15).symm) hM hS (lv_sub hl [0, 1, 2, 3, 4, 5, 6, 7, 8, 9] rfl)
            refine lv_iload_n hx hb dX10_play_72 rfl (lv_at hl 3 rfl) ?_
            refine lv_iconst (v := 1) hx hb dX10_play_73 (by decide) ?_
            refine lv_icmp_ne (tgt := 96) hx hb dX10_play_74 (by decide) (fun c_74 => ?_) (fun c_74 => ?_)
            · skip
              have hnk : ¬ (wy = 1 ∧ ¬ lane = bd) := na1 c_74
              refine lv_iload hx hb dX10_play_96 (lv_at hl 7 rfl) ?_
              refine lv_if_ge (tgt := 106) hx hb dX10_play_98 (by decide) (fun c_98 => ?_) (fun c_98 => ?_)
              · skip
                have hkl := Int32.not_lt.mpr c_98
                obtain ⟨kn, hkn, ekn⟩ := nI_of hkl
                refine lv_iload hx hb dX10_play_106 (lv_at hl 6 rfl) ?_
                refine lv_if_lt (tgt := 130) hx hb dX10_play_108 (by decide) (fun c_108 => ?_) (fun c_108 => ?_)
                · skip
                  have hpf : plF bk rw bd b wy fr n = -7 := hpw.trans (sI_7 hnk hkl (fun z => z.1 c_108))
                  refine lv_bipush (v := -7) hx hb dX10_play_130 (by decide) ?_
                  refine lv_goto (tgt := 136) hx hb dX10_play_132 (by decide) ?_
                  refine lv_istore (lv' := [(8, .int (-7)), (7, .int (nI w)), (0, .ref y), (1, .int (nI j)), (2, .int wy), (3, .int f0), (4, .int b), (5, .int fr), (6, .int n)]) hx hb dX10_play_136 hl (by decide) rfl (fun ls hl => ?_)
                  refine lv_iload hx hb dX10_play_138 (lv_at hl 0 rfl) ?_
                  refine lv_if_eq (tgt := 160) hx hb dX10_play_140 (by decide) (fun h9 => False.elim (by revert h9; exact (fun h => absurd h (by decide)))) (fun _ => ?_)
                  refine lv_aload_n hx hb dX10_play_143 rfl (lv_at hl 2 rfl) ?_
                  refine m_get (ci := 8) (v := .ref b14) (C := RX10) (T := TX10) (N := 21) hx hb hts in_X10_play_X10 hown hE hM g_y rfl 18 (by decide) (hts (.fieldLink RX10 52 "CallWays2Model" "counts" "[I") (by decide +kernel)) (fun _ h9 => h9) rfl dX10_play_144 ?_
                  refine lv_iconst (v := 1) hx hb dX10_play_147 (by decide) ?_
                  refine lv_dup2_11 hx hb dX10_play_148 rfl rfl ?_
                  refine m_iald hx hb hE hM g_b14 in3_1 dX10_play_149 ?_
                  rw [show CT (1 : Int32).toNatClampNeg = c3 from by show CT 1 = c3; exact hc3]
                  refine lv_iconst (v := 1) hx hb dX10_play_150 (by decide) ?_
                  refine lv_iadd hx hb dX10_play_151 ?_
                  refine m_iast hx hb hE hM hS g_b14 in3_1 dX10_play_152 (fun H locs hM hS => ?_)
                  rw [show upd CT (1 : Int32).toNatClampNeg (c3 + 1) = upd CT 1 (c3 + 1) from rfl] at hM
                  have hM : mOK E.1 (mA M sz) (mUp M b14 (mI E 3 (upd CT 1 (c3 + 1)))) H := hM
                  obtain ⟨M15, eM15⟩ : ∃ z, z = mUp M b14 (mI E 3 (upd CT 1 (c3 + 1))) := ⟨_, rfl⟩
                  rw [← eM15] at hM
                  have g_y_ : M15 y = some (mO 8 [.ref b1, .ref b2, .ref b3, .ref b4, .ref b5, .int (nI nn), .ref b6, .ref b7, .ref b8, .ref b9, .ref b10, .ref b11, .int (nI nf), .ref b12, .ref b13, .int bd, .int st, .int fa, .ref b14, .ref b15, .ref b16]) := by rw [eM15]; exact mUp_at (nd_ne hnd 0 14 rfl rfl (by decide)) g_y
                  have g_b1_ : M15 b1 = some (mI E 10 B) := by rw [eM15]; exact mUp_at (nd_ne hnd 1 14 rfl rfl (by decide)) g_b1
                  have g_b2_ : M15 b2 = some (mI E 12 T) := by rw [eM15]; exact mUp_at (nd_ne hnd 2 14 rfl rfl (by decide)) g_b2
                  have g_b3_ : M15 b3 = some (mI E 24 LN) := by rw [eM15]; exact mUp_at (nd_ne hnd 3 14 rfl rfl (by decide)) g_b3
                  have g_b4_ : M15 b4 = some (mI E 24 SZ) := by rw [eM15]; exact mUp_at (nd_ne hnd 4 14 rfl rfl (by decide)) g_b4
                  have g_b5_ : M15 b5 = some (mJ E 960 SM) := by rw [eM15]; exact mUp_at (nd_ne hnd 5 14 rfl rfl (by decide)) g_b5
                  have g_b6_ : M15 b6 = some (mI E 12 SO) := by rw [eM15]; exact mUp_at (nd_ne hnd 6 14 rfl rfl (by decide)) g_b6
                  have g_b7_ : M15 b7 = some (mI E 48 KN) := by rw [eM15]; exact mUp_at (nd_ne hnd 7 14 rfl rfl (by decide)) g_b7
                  have g_b8_ : M15 b8 = some (mI E 12 PI) := by rw [eM15]; exact mUp_at (nd_ne hnd 8 14 rfl rfl (by decide)) g_b8
                  have g_b9_ : M15 b9 = some (mZ E 12 ON) := by rw [eM15]; exact mUp_at (nd_ne hnd 9 14 rfl rfl (by decide)) g_b9
                  have g_b10_ : M15 b10 = some (mI E 12 PH) := by rw [eM15]; exact mUp_at (nd_ne hnd 10 14 rfl rfl (by decide)) g_b10
                  have g_b11_ : M15 b11 = some (mDb E 12 LE) := by rw [eM15]; exact mUp_at (nd_ne hnd 11 14 rfl rfl (by decide)) g_b11
                  have g_b12_ : M15 b12 = some (mI E 8 KD) := by rw [eM15]; exact mUp_at (nd_ne hnd 12 14 rfl rfl (by decide)) g_b12
                  have g_b13_ : M15 b13 = some (mI E 8 NM) := by rw [eM15]; exact mUp_at (nd_ne hnd 13 14 rfl rfl (by decide)) g_b13
                  have g_b15_ : M15 b15 = some (mDb E 40 CM) := by rw [eM15]; exact mUp_at (nd_ne hnd 15 14 rfl rfl (by decide)) g_b15
                  have g_b16_ : M15 b16 = some (mJ E 40 MV) := by rw [eM15]; exact mUp_at (nd_ne hnd 16 14 rfl rfl (by decide)) g_b16
                  have g_y := g_y_
                  have g_b1 := g_b1_
                  have g_b2 := g_b2_
                  have g_b3 := g_b3_
                  have g_b4 := g_b4_
                  have g_b5 := g_b5_
                  have g_b6 := g_b6_
                  have g_b7 := g_b7_
                  have g_b8 := g_b8_
                  have g_b9 := g_b9_
                  have g_b10 := g_b10_
                  have g_b11 := g_b11_
                  have g_b12 := g_b12_
                  have g_b13 := g_b13_
                  have g_b15 := g_b15_
                  have g_b16 := g_b16_
                  have g_b14 : M15 b14 = some (mI E 3 (upd CT 1 (c3 + 1))) := by rw [eM15]; exact mUp_self _ _ _
                  have hk : kept (nol y b1 b2 b3 b4 b5 b6 b7 b8 b9 b10 b11 b12 b13 b14 b15 b16) M M15 := (by rw [eM15]; exact hk.up (nol_in 14 rfl))
                  refine lv_aload_n hx hb dX10_play_153 rfl (lv_at hl 2 rfl) ?_
                  refine lv_iload hx hb dX10_play_154 (lv_at hl 0 rfl) ?_
                  refine m_calli (va_runV (As := [.int (-7 : Int32)]) (rest := []) ⟨hx, hb, hml, hown, hts⟩ (c_X10_says l E M15 H.size y b1 b2 b3 b4 b5 b6 b7 b8 b9 b10 b11 b12 b13 b14 b15 b16 (nI nn) (nI nf) bd st fa (-7 : Int32) g_y) (cwV 1 hts gX10_play_X10_says rfl rfl rfl (by decide +kernel) ⟨Nat.le_of_ble_eq_true rfl, Nat.le_of_ble_eq_true rfl⟩) (m_preV hE hM g_y rfl) rfl rfl hl.1 rfl (lv_room (Nat.le_of_ble_eq_true rfl)) dX10_play_156 ⟨Nat.le_of_ble_eq_true rfl, Nat.le_of_ble_eq_true rfl⟩) hM hS hA (fun r2 M16 H locs hw hM hS => ?_)
                  obtain ⟨e_r2, eM16⟩ := hw
                  subst e_r2
                  have g_b1_ : M16 b1 = some (mI E 10 B) := by rw [eM16]; exact mUp_at (nd_ne hnd 1 0 rfl rfl (by decide)) g_b1
                  have g_b2_ : M16 b2 = some (mI E 12 T) := by rw [eM16]; exact mUp_at (nd_ne hnd 2 0 rfl rfl (by decide)) g_b2
                  have g_b3_ : M16 b3 = some (mI E 24 LN) := by rw [eM16]; exact mUp_at (nd_ne hnd 3 0 rfl rfl (by decide)) g_b3
                  have g_b4_ : M16 b4 = some (mI E 24 SZ) := by rw [eM16]; exact mUp_at (nd_ne hnd 4 0 rfl rfl (by decide)) g_b4
                  have g_b5_ : M16 b5 = some (mJ E 960 SM) := by rw [eM16]; exact mUp_at (nd_ne hnd 5 0 rfl rfl (by decide)) g_b5
                  have g_b6_ : M16 b6 = some (mI E 12 SO) := by rw [eM16]; exact mUp_at (nd_ne hnd 6 0 rfl rfl (by decide)) g_b6
                  have g_b7_ : M16 b7 = some (mI E 48 KN) := by rw [eM16]; exact mUp_at (nd_ne hnd 7 0 rfl rfl (by decide)) g_b7
                  have g_b8_ : M16 b8 = some (mI E 12 PI) := by rw [eM16]; exact mUp_at (nd_ne hnd 8 0 rfl rfl (by decide)) g_b8
                  have g_b9_ : M16 b9 = some (mZ E 12 ON) := by rw [eM16]; exact mUp_at (nd_ne hnd 9 0 rfl rfl (by decide)) g_b9
                  have g_b10_ : M16 b10 = some (mI E 12 PH) := by rw [eM16]; exact mUp_at (nd_ne hnd 10 0 rfl rfl (by decide)) g_b10
                  have g_b11_ : M16 b11 = some (mDb E 12 LE) := by rw [eM16]; exact mUp_at (nd_ne hnd 11 0 rfl rfl (by decide)) g_b11
                  have g_b12_ : M16 b12 = some (mI E 8 KD) := by rw [eM16]; exact mUp_at (nd_ne hnd 12 0 rfl rfl (by decide)) g_b12
                  have g_b13_ : M16 b13 = some (mI E 8 NM) := by rw [eM16]; exact mUp_at (nd_ne hnd 13 0 rfl rfl (by decide)) g_b13
                  have g_b14_ : M16 b14 = some (mI E 3 (upd CT 1 (c3 + 1))) := by rw [eM16]; exact mUp_at (nd_ne hnd 14 0 rfl rfl (by decide)) g_b14
                  have g_b15_ : M16 b15 = some (mDb E 40 CM) := by rw [eM16]; exact mUp_at (nd_ne hnd 15 0 rfl rfl (by decide)) g_b15
                  have g_b16_ : M16 b16 = some (mJ E 40 MV) := by rw [eM16]; exact mUp_at (nd_ne hnd 16 0 rfl rfl (by decide)) g_b16
                  have g_b1 := g_b1_
                  have g_b2 := g_b2_
                  have g_b3 := g_b3_
                  have g_b4 := g_b4_
                  have g_b5 := g_b5_
                  have g_b6 := g_b6_
                  have g_b7 := g_b7_
                  have g_b8 := g_b8_
                  have g_b9 := g_b9_
                  have g_b10 := g_b10_
                  have g_b11 := g_b11_
                  have g_b12 := g_b12_
                  have g_b13 := g_b13_
                  have g_b14 := g_b14_
                  have g_b15 := g_b15_
                  have g_b16 := g_b16_
                  have g_y : M16 y = some (mO 8 [.ref b1, .ref b2, .ref b3, .ref b4, .ref b5, .int (nI nn), .ref b6, .ref b7, .ref b8, .ref b9, .ref b10, .ref b11, .int (nI nf), .ref b12, .ref b13, .int bd, .int (if (-7 : Int32) < 0 then (-7 : Int32) else 0), .int fa, .ref b14, .ref b15, .ref b16]) := by rw [eM16]; exact mUp_self _ _ _
                  have hk : kept (nol y b1 b2 b3 b4 b5 b6 b7 b8 b9 b10 b11 b12 b13 b14 b15 b16) M M16 := (by rw [eM16]; exact hk.up (nol_in 0 rfl))
                  rw [if_pos (show (-7 : Int32) < 0 by decide)] at g_y
                  exact m_iret hx hb hr hlocks hM hS (Nat.le_refl _) (Nat.le_refl _) dX10_play_159 (by refine ⟨(by show _ = (if vPl nn nf (nI j) wy f0 b then (if plF bk rw bd b wy fr n = 0 then _ else plF bk rw bd b wy fr n) else -1); rw [if_pos hvp, hpf]; rfl), ?_, hk⟩; show mR E _ y b1 b2 b3 b4 b5 b6 b7 b8 b9 b10 b11 b12 b13 b14 b15 b16 (if vPl nn nf (nI j) wy f0 b then (if plF bk rw bd b wy fr n = 0 then _ else (nn, ins, nf, fn, bk, rw, bd, plF bk rw bd b wy fr n, c2, c3 + 1, c4)) else _); rw [if_pos hvp, hpf]; rw [if_neg (by decide)]; exact ⟨_, _, _, _, _, _, _, _, _, _, _, _, _, _, _, _, _, ⟨g_y, g_b1, g_b2, g_b3, g_b4, g_b5, g_b6, g_b7, g_b8, g_b9, g_b10, g_b11, g_b12, g_b13, g_b14, g_b15, g_b16⟩, hB, hT, hR, hN, hF, (by show upd CT 1 (c3 + 1) 0 = c2; rw [upd_o (by decide)]; exact hc2), upd_s, (by show upd CT 1 (c3 + 1) 2 = c4; rw [upd_o (by decide)]; exact hc4)⟩)
                · skip
                  obtain ⟨a9, ha9, ea9⟩ := nI_of c_108
                  refine lv_iload hx hb dX10_play_111 (lv_at hl 6 rfl) ?_
                  refine lv_i2l hx hb dX10_play_113 rfl ?_
                  refine lv_iload hx hb dX10_play_114 (lv_at hl 7 rfl) ?_
                  refine lv_i2l hx hb dX10_play_116 rfl ?_
                  refine lv_ladd hx hb dX10_play_117 ?_
                  refine lv_aload_n hx hb dX10_play_118 rfl (lv_at hl 1 rfl) ?_
                  refine m_get (ci := 8) (v := .ref b4) (C := RX10) (T := TX10) (N := 21) hx hb hts in_X10_play_X10 hown hE hM g_y rfl 3 (by decide) (hts (.fieldLink RX10 19 "CallWays2Model" "sizeOf" "[I") (by decide +kernel)) (fun _ h9 => h9) rfl dX10_play_119 ?_
                  refine lv_iload hx hb dX10_play_122 (lv_at hl 0 rfl) ?_
                  refine m_iald hx hb hE hM g_b4 (vp_in_nI hw24 (by decide)) dX10_play_124 ?_
                  rw [show SZ (nI w).toNatClampNeg = nI n0 from by rw [nI_clamp (by omega), hSz]]
                  refine lv_i2l hx hb dX10_play_125 rfl ?_
                  refine W.lcmp hx hb dX10_play_126 ?_
                  refine lv_if_le (tgt := 135) hx hb dX10_play_127 (by decide) (fun c_127 => ?_) (fun c_127 => ?_)
                  · skip
                    replace c_127 := Int32.not_lt.mpr c_127
                    rw [ea9, ekn, lsum (by omega) ha9 hkn, Classical.not_not] at c_127
                    have hspn : spn n0 fr n := (by rw [ea9, ekn]; exact (spn_iff (by omega) ha9 hkn).mpr c_127)
                    have hpf : plF bk rw bd b wy fr n = 0 := hpw.trans (sI_0 hnk hkl hspn)
                    refine lv_iconst (v := 0) hx hb dX10_play_135 (by decide) ?_
                    refine lv_istore (lv' := [(8, .int 0), (7, .int (nI w)), (0, .ref y), (1, .int (nI j)), (2, .int wy), (3, .int f0), (4, .int b), (5, .int fr), (6, .int n)]) hx hb dX10_play_136 hl (by decide) rfl (fun ls hl => ?_)
                    refine lv_iload hx hb dX10_play_138 (lv_at hl 0 rfl) ?_
                    refine lv_if_eq (tgt := 160) hx hb dX10_play_140 (by decide) (fun _ => ?_) (fun h9 => False.elim (by revert h9; exact (fun h => h rfl)))
                    exact core hpf hspn ls (lv_sub hl [0, 1, 2, 3, 4, 5, 6, 7, 8] rfl)
                  · skip
                    replace c_127 := Int32.not_le.mp c_127
                    rw [ea9, ekn, lsum (by omega) ha9 hkn] at c_127
                    have hpf : plF bk rw bd b wy fr n = -7 := hpw.trans (sI_7 hnk hkl (fun z => c_127 ((spn_iff (by omega) ha9 hkn).mp (by rw [← ea9, ← ekn]; exact z))))
                    refine lv_bipush (v := -7) hx hb dX10_play_130 (by decide) ?_
                    refine lv_goto (tgt := 136) hx hb dX10_play_132 (by decide) ?_
                    refine lv_istore (lv' := [(8, .int (-7)), (7, .int (nI w)), (0, .ref y), (1, .int (nI j)), (2, .int wy), (3, .int f0), (4, .int b), (5, .int fr), (6, .int n)]) hx hb dX10_play_136 hl (by decide) rfl (fun ls hl => ?_)
                    refine lv_iload hx hb dX10_play_138 (lv_at hl 0 rfl) ?_
                    refine lv_if_eq (tgt := 160) hx hb dX10_play_140 (by decide) (fun h9 => False.elim (by revert h9; exact (fun h => absurd h (by decide)))) (fun _ => ?_)
                    refine lv_aload_n hx hb dX10_play_143 rfl (lv_at hl 2 rfl) ?_
                    refine m_get (ci := 8) (v := .ref b14) (C := RX10) (T := TX10) (N := 21) hx hb hts in_X10_play_X10 hown hE hM g_y rfl 18 (by decide) (hts (.fieldLink RX10 52 "CallWays2Model" "counts" "[I") (by decide +kernel)) (fun _ h9 => h9) rfl dX10_play_144 ?_
                    refine lv_iconst (v := 1) hx hb dX10_play_147 (by decide) ?_
                    refine lv_dup2_11 hx hb dX10_play_148 rfl rfl ?_
                    refine m_iald hx hb hE hM g_b14 in3_1 dX10_play_149 ?_
                    rw [show CT (1 : Int32).toNatClampNeg = c3 from by show CT 1 = c3; exact hc3]
                    refine lv_iconst (v := 1) hx hb dX10_play_150 (by decide) ?_
                    refine lv_iadd hx hb dX10_play_151 ?_
                    refine m_iast hx hb hE hM hS g_b14 in3_1 dX10_play_152 (fun H locs hM hS => ?_)
                    rw [show upd CT (1 : Int32).toNatClampNeg (c3 + 1) = upd CT 1 (c3 + 1) from rfl] at hM
                    have hM : mOK E.1 (mA M sz) (mUp M b14 (mI E 3 (upd CT 1 (c3 + 1)))) H := hM
                    obtain ⟨M17, eM17⟩ : ∃ z, z = mUp M b14 (mI E 3 (upd CT 1 (c3 + 1))) := ⟨_, rfl⟩
                    rw [← eM17] at hM
                    have g_y_ : M17 y = some (mO 8 [.ref b1, .ref b2, .ref b3, .ref b4, .ref b5, .int (nI nn), .ref b6, .ref b7, .ref b8, .ref b9, .ref b10, .ref b11, .int (nI nf), .ref b12, .ref b13, .int bd, .int st, .int fa, .ref b14, .ref b15, .ref b16]) := by rw [eM17]; exact mUp_at (nd_ne hnd 0 14 rfl rfl (by decide)) g_y
                    have g_b1_ : M17 b1 = some (mI E 10 B) := by rw [eM17]; exact mUp_at (nd_ne hnd 1 14 rfl rfl (by decide)) g_b1
                    have g_b2_ : M17 b2 = some (mI E 12 T) := by rw [eM17]; exact mUp_at (nd_ne hnd 2 14 rfl rfl (by decide)) g_b2
                    have g_b3_ : M17 b3 = some (mI E 24 LN) := by rw [eM17]; exact mUp_at (nd_ne hnd 3 14 rfl rfl (by decide)) g_b3
                    have g_b4_ : M17 b4 = some (mI E 24 SZ) := by rw [eM17]; exact mUp_at (nd_ne hnd 4 14 rfl rfl (by decide)) g_b4
                    have g_b5_ : M17 b5 = some (mJ E 960 SM) := by rw [eM17]; exact mUp_at (nd_ne hnd 5 14 rfl rfl (by decide)) g_b5
                    have g_b6_ : M17 b6 = some (mI E 12 SO) := by rw [eM17]; exact mUp_at (nd_ne hnd 6 14 rfl rfl (by decide)) g_b6
                    have g_b7_ : M17 b7 = some (mI E 48 KN) := by rw [eM17]; exact mUp_at (nd_ne hnd 7 14 rfl rfl (by decide)) g_b7
                    have g_b8_ : M17 b8 = some (mI E 12 PI) := by rw [eM17]; exact mUp_at (nd_ne hnd 8 14 rfl rfl (by decide)) g_b8
                    have g_b9_ : M17 b9 = some (mZ E 12 ON) := by rw [eM17]; exact mUp_at (nd_ne hnd 9 14 rfl rfl (by decide)) g_b9
                    have g_b10_ : M17 b10 = some (mI E 12 PH) := by rw [eM17]; exact mUp_at (nd_ne hnd 10 14 rfl rfl (by decide)) g_b10
                    have g_b11_ : M17 b11 = some (mDb E 12 LE) := by rw [eM17]; exact mUp_at (nd_ne hnd 11 14 rfl rfl (by decide)) g_b11
                    have g_b12_ : M17 b12 = some (mI E 8 KD) := by rw [eM17]; exact mUp_at (nd_ne hnd 12 14 rfl rfl (by decide)) g_b12
                    have g_b13_ : M17 b13 = some (mI E 8 NM) := by rw [eM17]; exact mUp_at (nd_ne hnd 13 14 rfl rfl (by decide)) g_b13
                    have g_b15_ : M17 b15 = some (mDb E 40 CM) := by rw [eM17]; exact mUp_at (nd_ne hnd 15 14 rfl rfl (by decide)) g_b15
                    have g_b16_ : M17 b16 = some (mJ E 40 MV) := by rw [eM17]; exact mUp_at (nd_ne hnd 16 14 rfl rfl (by decide)) g_b16
                    have g_y := g_y_
                    have g_b1 := g_b1_
                    have g_b2 := g_b2_
                    have g_b3 := g_b3_
                    have g_b4 := g_b4_
                    have g_b5 := g_b5_
                    have g_b6 := g_b6_
                    have g_b7 := g_b7_
                    have g_b8 := g_b8_
                    have g_b9 := g_b9_
                    have g_b10 := g_b10_
                    have g_b11 := g_b11_
                    have g_b12 := g_b12_
                    have g_b13 := g_b13_
                    have g_b15 := g_b15_
                    have g_b16 := g_b16_
                    have g_b14 : M17 b14 = some (mI E 3 (upd CT 1 (c3 + 1))) := by rw [eM17]; exact mUp_self _ _ _
                    have hk : kept (nol y b1 b2 b3 b4 b5 b6 b7 b8 b9 b10 b11 b12 b13 b14 b15 b16) M M17 := (by rw [eM17]; exact hk.up (nol_in 14 rfl))
                    refine lv_aload_n hx hb dX10_play_153 rfl (lv_at hl 2 rfl) ?_
                    refine lv_iload hx hb dX10_play_154 (lv_at hl 0 rfl) ?_
                    refine m_calli (va_runV (As := [.int (-7 : Int32)]) (rest := []) ⟨hx, hb, hml, hown, hts⟩ (c_X10_says l E M17 H.size y b1 b2 b3 b4 b5 b6 b7 b8 b9 b10 b11 b12 b13 b14 b15 b16 (nI nn) (nI nf) bd st fa (-7 : Int32) g_y) (cwV 1 hts gX10_play_X10_says rfl rfl rfl (by decide +kernel) ⟨Nat.le_of_ble_eq_true rfl, Nat.le_of_ble_eq_true rfl⟩) (m_preV hE hM g_y rfl) rfl rfl hl.1 rfl (lv_room (Nat.le_of_ble_eq_true rfl)) dX10_play_156 ⟨Nat.le_of_ble_eq_true rfl, Nat.le_of_ble_eq_true rfl⟩) hM hS hA (fun r2 M18 H locs hw hM hS => ?_)
                    obtain ⟨e_r2, eM18⟩ := hw
                    subst e_r2
                    have g_b1_ : M18 b1 = some (mI E 10 B) := by rw [eM18]; exact mUp_at (nd_ne hnd 1 0 rfl rfl (by decide)) g_b1
                    have g_b2_ : M18 b2 = some (mI E 12 T) := by rw [eM18]; exact mUp_at (nd_ne hnd 2 0 rfl rfl (by decide)) g_b2
                    have g_b3_ : M18 b3 = some (mI E 24 LN) := by rw [eM18]; exact mUp_at (nd_ne hnd 3 0 rfl rfl (by decide)) g_b3
                    have g_b4_ : M18 b4 = some (mI E 24 SZ) := by rw [eM18]; exact mUp_at (nd_ne hnd 4 0 rfl rfl (by decide)) g_b4
                    have g_b5_ : M18 b5 = some (mJ E 960 SM) := by rw [eM18]; exact mUp_at (nd_ne hnd 5 0 rfl rfl (by decide)) g_b5
                    have g_b6_ : M18 b6 = some (mI E 12 SO) := by rw [eM18]; exact mUp_at (nd_ne hnd 6 0 rfl rfl (by decide)) g_b6
                    have g_b7_ : M18 b7 = some (mI E 48 KN) := by rw [eM18]; exact mUp_at (nd_ne hnd 7 0 rfl rfl (by decide)) g_b7
                    have g_b8_ : M18 b8 = some (mI E 12 PI) := by rw [eM18]; exact mUp_at (nd_ne hnd 8 0 rfl rfl (by decide)) g_b8
                    have g_b9_ : M18 b9 = some (mZ E 12 ON) := by rw [eM18]; exact mUp_at (nd_ne hnd 9 0 rfl rfl (by decide)) g_b9
                    have g_b10_ : M18 b10 = some (mI E 12 PH) := by rw [eM18]; exact mUp_at (nd_ne hnd 10 0 rfl rfl (by decide)) g_b10
                    have g_b11_ : M18 b11 = some (mDb E 12 LE) := by rw [eM18]; exact mUp_at (nd_ne hnd 11 0 rfl rfl (by decide)) g_b11
                    have g_b12_ : M18 b12 = some (mI E 8 KD) := by rw [eM18]; exact mUp_at (nd_ne hnd 12 0 rfl rfl (by decide)) g_b12
                    have g_b13_ : M18 b13 = some (mI E 8 NM) := by rw [eM18]; exact mUp_at (nd_ne hnd 13 0 rfl rfl (by decide)) g_b13
                    have g_b14_ : M18 b14 = some (mI E 3 (upd CT 1 (c3 + 1))) := by rw [eM18]; exact mUp_at (nd_ne hnd 14 0 rfl rfl (by decide)) g_b14
                    have g_b15_ : M18 b15 = some (mDb E 40 CM) := by rw [eM18]; exact mUp_at (nd_ne hnd 15 0 rfl rfl (by decide)) g_b15
                    have g_b16_ : M18 b16 = some (mJ E 40 MV) := by rw [eM18]; exact mUp_at (nd_ne hnd 16 0 rfl rfl (by decide)) g_b16
                    have g_b1 := g_b1_
                    have g_b2 := g_b2_
                    have g_b3 := g_b3_
                    have g_b4 := g_b4_
                    have g_b5 := g_b5_
                    have g_b6 := g_b6_
                    have g_b7 := g_b7_
                    have g_b8 := g_b8_
                    have g_b9 := g_b9_
                    have g_b10 := g_b10_
                    have g_b11 := g_b11_
                    have g_b12 := g_b12_
                    have g_b13 := g_b13_
                    have g_b14 := g_b14_
                    have g_b15 := g_b15_
                    have g_b16 := g_b16_
                    have g_y : M18 y = some (mO 8 [.ref b1, .ref b2, .ref b3, .ref b4, .ref b5, .int (nI nn), .ref b6, .ref b7, .ref b8, .ref b9, .ref b10, .ref b11, .int (nI nf), .ref b12, .ref b13, .int bd, .int (if (-7 : Int32) < 0 then (-7 : Int32) else 0), .int fa, .ref b14, .ref b15, .ref b16]) := by rw [eM18]; exact mUp_self _ _ _
                    have hk : kept (nol y b1 b2 b3 b4 b5 b6 b7 b8 b9 b10 b11 b12 b13 b14 b15 b16) M M18 := (by rw [eM18]; exact hk.up (nol_in 0 rfl))
                    rw [if_pos (show (-7 : Int32) < 0 by decide)] at g_y
                    exact m_iret hx hb hr hlocks hM hS (Nat.le_refl _) (Nat.le_refl _) dX10_play_159 (by refine ⟨(by show _ = (if vPl nn nf (nI j) wy f0 b then (if plF bk rw bd b wy fr n = 0 then _ else plF bk rw bd b wy fr n) else -1); rw [if_pos hvp, hpf]; rfl), ?_, hk⟩; show mR E _ y b1 b2 b3 b4 b5 b6 b7 b8 b9 b10 b11 b12 b13 b14 b15 b16 (if vPl nn nf (nI j) wy f0 b then (if plF bk rw bd b wy fr n = 0 then _ else (nn, ins, nf, fn, bk, rw, bd, plF bk rw bd b wy fr n, c2, c3 + 1, c4)) else _); rw [if_pos hvp, hpf]; rw [if_neg (by decide)]; exact ⟨_, _, _, _, _, _, _, _, _, _, _, _, _, _, _, _, _, ⟨g_y, g_b1, g_b2, g_b3, g_b4, g_b5, g_b6, g_b7, g_b8, g_b9, g_b10, g_b11, g_b12, g_b13, g_b14, g_b15, g_b16⟩, hB, hT, hR, hN, hF, (by show upd CT 1 (c3 + 1) 0 = c2; rw [upd_o (by decide)]; exact hc2), upd_s, (by show upd CT 1 (c3 + 1) 2 = c4; rw [upd_o (by decide)]; exact hc4)⟩)
              · skip
                have hpf : plF bk rw bd b wy fr n = -8 := hpw.trans (sI_8 hnk (Int32.not_le.mp c_98))
                refine lv_bipush (v := -8) hx hb dX10_play_101 (by decide) ?_
                refine lv_goto (tgt := 136) hx hb dX10_play_103 (by decide) ?_
                refine lv_istore (lv' := [(8, .int (-8)), (7, .int (nI w)), (0, .ref y), (1, .int (nI j)), (2, .int wy), (3, .int f0), (4, .int b), (5, .int fr), (6, .int n)]) hx hb dX10_play_136 hl (by decide) rfl (fun ls hl => ?_)
                refine lv_iload hx hb dX10_play_138 (lv_at hl 0 rfl) ?_
                refine lv_if_eq (tgt := 160) hx hb dX10_play_140 (by decide) (fun h9 => False.elim (by revert h9; exact (fun h => absurd h (by decide)))) (fun _ => ?_)
                refine lv_aload_n hx hb dX10_play_143 rfl (lv_at hl 2 rfl) ?_
                refine m_get (ci := 8) (v := .ref b14) (C := RX10) (T := TX10) (N := 21) hx hb hts in_X10_play_X10 hown hE hM g_y rfl 18 (by decide) (hts (.fieldLink RX10 52 "CallWays2Model" "counts" "[I") (by decide +kernel)) (fun _ h9 => h9) rfl dX10_play_144 ?_
                refine lv_iconst (v := 1) hx hb dX10_play_147 (by decide) ?_
                refine lv_dup2_11 hx hb dX10_play_148 rfl rfl ?_
                refine m_iald hx hb hE hM g_b14 in3_1 dX10_play_149 ?_
                rw [show CT (1 : Int32).toNatClampNeg = c3 from by show CT 1 = c3; exact hc3]
                refine lv_iconst (v := 1) hx hb dX10_play_150 (by decide) ?_
                refine lv_iadd hx hb dX10_play_151 ?_
                refine m_iast hx hb hE hM hS g_b14 in3_1 dX10_play_152 (fun H locs hM hS => ?_)
                rw [show upd CT (1 : Int32).toNatClampNeg (c3 + 1) = upd CT 1 (c3 + 1) from rfl] at hM
                have hM : mOK E.1 (mA M sz) (mUp M b14 (mI E 3 (upd CT 1 (c3 + 1)))) H := hM
                obtain ⟨M19, eM19⟩ : ∃ z, z = mUp M b14 (mI E 3 (upd CT 1 (c3 + 1))) := ⟨_, rfl⟩
                rw [← eM19] at hM
                have g_y_ : M19 y = some (mO 8 [.ref b1, .ref b2, .ref b3, .ref b4, .ref b5, .int (nI nn), .ref b6, .ref b7, .ref b8, .ref b9, .ref b10, .ref b11, .int (nI nf), .ref b12, .ref b13, .int bd, .int st, .int fa, .ref b14, .ref b15, .ref b16]) := by rw [eM19]; exact mUp_at (nd_ne hnd 0 14 rfl rfl (by decide)) g_y
                have g_b1_ : M19 b1 = some (mI E 10 B) := by rw [eM19]; exact mUp_at (nd_ne hnd 1 14 rfl rfl (by decide)) g_b1
                have g_b2_ : M19 b2 = some (mI E 12 T) := by rw [eM19]; exact mUp_at (nd_ne hnd 2 14 rfl rfl (by decide)) g_b2
                have g_b3_ : M19 b3 = some (mI E 24 LN) := by rw [eM19]; exact mUp_at (nd_ne hnd 3 14 rfl rfl (by decide)) g_b3
                have g_b4_ : M19 b4 = some (mI E 24 SZ) := by rw [eM19]; exact mUp_at (nd_ne hnd 4 14 rfl rfl (by decide)) g_b4
                have g_b5_ : M19 b5 = some (mJ E 960 SM) := by rw [eM19]; exact mUp_at (nd_ne hnd 5 14 rfl rfl (by decide)) g_b5
                have g_b6_ : M19 b6 = some (mI E 12 SO) := by rw [eM19]; exact mUp_at (nd_ne hnd 6 14 rfl rfl (by decide)) g_b6
                have g_b7_ : M19 b7 = some (mI E 48 KN) := by rw [eM19]; exact mUp_at (nd_ne hnd 7 14 rfl rfl (by decide)) g_b7
                have g_b8_ : M19 b8 = some (mI E 12 PI) := by rw [eM19]; exact mUp_at (nd_ne hnd 8 14 rfl rfl (by decide)) g_b8
                have g_b9_ : M19 b9 = some (mZ E 12 ON) := by rw [eM19]; exact mUp_at (nd_ne hnd 9 14 rfl rfl (by decide)) g_b9
                have g_b10_ : M19 b10 = some (mI E 12 PH) := by rw [eM19]; exact mUp_at (nd_ne hnd 10 14 rfl rfl (by decide)) g_b10
                have g_b11_ : M19 b11 = some (mDb E 12 LE) := by rw [eM19]; exact mUp_at (nd_ne hnd 11 14 rfl rfl (by decide)) g_b11
                have g_b12_ : M19 b12 = some (mI E 8 KD) := by rw [eM19]; exact mUp_at (nd_ne hnd 12 14 rfl rfl (by decide)) g_b12
                have g_b13_ : M19 b13 = some (mI E 8 NM) := by rw [eM19]; exact mUp_at (nd_ne hnd 13 14 rfl rfl (by decide)) g_b13
                have g_b15_ : M19 b15 = some (mDb E 40 CM) := by rw [eM19]; exact mUp_at (nd_ne hnd 15 14 rfl rfl (by decide)) g_b15
                have g_b16_ : M19 b16 = some (mJ E 40 MV) := by rw [eM19]; exact mUp_at (nd_ne hnd 16 14 rfl rfl (by decide)) g_b16
                have g_y := g_y_
                have g_b1 := g_b1_
                have g_b2 := g_b2_
                have g_b3 := g_b3_
                have g_b4 := g_b4_
                have g_b5 := g_b5_
                have g_b6 := g_b6_
                have g_b7 := g_b7_
                have g_b8 := g_b8_
                have g_b9 := g_b9_
                have g_b10 := g_b10_
                have g_b11 := g_b11_
                have g_b12 := g_b12_
                have g_b13 := g_b13_
                have g_b15 := g_b15_
                have g_b16 := g_b16_
                have g_b14 : M19 b14 = some (mI E 3 (upd CT 1 (c3 + 1))) := by rw [eM19]; exact mUp_self _ _ _
                have hk : kept (nol y b1 b2 b3 b4 b5 b6 b7 b8 b9 b10 b11 b12 b13 b14 b15 b16) M M19 := (by rw [eM19]; exact hk.up (nol_in 14 rfl))
                refine lv_aload_n hx hb dX10_play_153 rfl (lv_at hl 2 rfl) ?_
                refine lv_iload hx hb dX10_play_154 (lv_at hl 0 rfl) ?_
                refine m_calli (va_runV (As := [.int (-8 : Int32)]) (rest := []) ⟨hx, hb, hml, hown, hts⟩ (c_X10_says l E M19 H.size y b1 b2 b3 b4 b5 b6 b7 b8 b9 b10 b11 b12 b13 b14 b15 b16 (nI nn) (nI nf) bd st fa (-8 : Int32) g_y) (cwV 1 hts gX10_play_X10_says rfl rfl rfl (by decide +kernel) ⟨Nat.le_of_ble_eq_true rfl, Nat.le_of_ble_eq_true rfl⟩) (m_preV hE hM g_y rfl) rfl rfl hl.1 rfl (lv_room (Nat.le_of_ble_eq_true rfl)) dX10_play_156 ⟨Nat.le_of_ble_eq_true rfl, Nat.le_of_ble_eq_true rfl⟩) hM hS hA (fun r2 M20 H locs hw hM hS => ?_)
                obtain ⟨e_r2, eM20⟩ := hw
                subst e_r2
                have g_b1_ : M20 b1 = some (mI E 10 B) := by rw [eM20]; exact mUp_at (nd_ne hnd 1 0 rfl rfl (by decide)) g_b1
                have g_b2_ : M20 b2 = some (mI E 12 T) := by rw [eM20]; exact mUp_at (nd_ne hnd 2 0 rfl rfl (by decide)) g_b2
                have g_b3_ : M20 b3 = some (mI E 24 LN) := by rw [eM20]; exact mUp_at (nd_ne hnd 3 0 rfl rfl (by decide)) g_b3
                have g_b4_ : M20 b4 = some (mI E 24 SZ) := by rw [eM20]; exact mUp_at (nd_ne hnd 4 0 rfl rfl (by decide)) g_b4
                have g_b5_ : M20 b5 = some (mJ E 960 SM) := by rw [eM20]; exact mUp_at (nd_ne hnd 5 0 rfl rfl (by decide)) g_b5
                have g_b6_ : M20 b6 = some (mI E 12 SO) := by rw [eM20]; exact mUp_at (nd_ne hnd 6 0 rfl rfl (by decide)) g_b6
                have g_b7_ : M20 b7 = some (mI E 48 KN) := by rw [eM20]; exact mUp_at (nd_ne hnd 7 0 rfl rfl (by decide)) g_b7
                have g_b8_ : M20 b8 = some (mI E 12 PI) := by rw [eM20]; exact mUp_at (nd_ne hnd 8 0 rfl rfl (by decide)) g_b8
                have g_b9_ : M20 b9 = some (mZ E 12 ON) := by rw [eM20]; exact mUp_at (nd_ne hnd 9 0 rfl rfl (by decide)) g_b9
                have g_b10_ : M20 b10 = some (mI E 12 PH) := by rw [eM20]; exact mUp_at (nd_ne hnd 10 0 rfl rfl (by decide)) g_b10
                have g_b11_ : M20 b11 = some (mDb E 12 LE) := by rw [eM20]; exact mUp_at (nd_ne hnd 11 0 rfl rfl (by decide)) g_b11
                have g_b12_ : M20 b12 = some (mI E 8 KD) := by rw [eM20]; exact mUp_at (nd_ne hnd 12 0 rfl rfl (by decide)) g_b12
                have g_b13_ : M20 b13 = some (mI E 8 NM) := by rw [eM20]; exact mUp_at (nd_ne hnd 13 0 rfl rfl (by decide)) g_b13
                have g_b14_ : M20 b14 = some (mI E 3 (upd CT 1 (c3 + 1))) := by rw [eM20]; exact mUp_at (nd_ne hnd 14 0 rfl rfl (by decide)) g_b14
                have g_b15_ : M20 b15 = some (mDb E 40 CM) := by rw [eM20]; exact mUp_at (nd_ne hnd 15 0 rfl rfl (by decide)) g_b15
                have g_b16_ : M20 b16 = some (mJ E 40 MV) := by rw [eM20]; exact mUp_at (nd_ne hnd 16 0 rfl rfl (by decide)) g_b16
                have g_b1 := g_b1_
                have g_b2 := g_b2_
                have g_b3 := g_b3_
                have g_b4 := g_b4_
                have g_b5 := g_b5_
                have g_b6 := g_b6_
                have g_b7 := g_b7_
                have g_b8 := g_b8_
                have g_b9 := g_b9_
                have g_b10 := g_b10_
                have g_b11 := g_b11_
                have g_b12 := g_b12_
                have g_b13 := g_b13_
                have g_b14 := g_b14_
                have g_b15 := g_b15_
                have g_b16 := g_b16_
                have g_y : M20 y = some (mO 8 [.ref b1, .ref b2, .ref b3, .ref b4, .ref b5, .int (nI nn), .ref b6, .ref b7, .ref b8, .ref b9, .ref b10, .ref b11, .int (nI nf), .ref b12, .ref b13, .int bd, .int (if (-8 : Int32) < 0 then (-8 : Int32) else 0), .int fa, .ref b14, .ref b15, .ref b16]) := by rw [eM20]; exact mUp_self _ _ _
                have hk : kept (nol y b1 b2 b3 b4 b5 b6 b7 b8 b9 b10 b11 b12 b13 b14 b15 b16) M M20 := (by rw [eM20]; exact hk.up (nol_in 0 rfl))
                rw [if_pos (show (-8 : Int32) < 0 by decide)] at g_y
                exact m_iret hx hb hr hlocks hM hS (Nat.le_refl _) (Nat.le_refl _) dX10_play_159 (by refine ⟨(by show _ = (if vPl nn nf (nI j) wy f0 b then (if plF bk rw bd b wy fr n = 0 then _ else plF bk rw bd b wy fr n) else -1); rw [if_pos hvp, hpf]; rfl), ?_, hk⟩; show mR E _ y b1 b2 b3 b4 b5 b6 b7 b8 b9 b10 b11 b12 b13 b14 b15 b16 (if vPl nn nf (nI j) wy f0 b then (if plF bk rw bd b wy fr n = 0 then _ else (nn, ins, nf, fn, bk, rw, bd, plF bk rw bd b wy fr n, c2, c3 + 1, c4)) else _); rw [if_pos hvp, hpf]; rw [if_neg (by decide)]; exact ⟨_, _, _, _, _, _, _, _, _, _, _, _, _, _, _, _, _, ⟨g_y, g_b1, g_b2, g_b3, g_b4, g_b5, g_b6, g_b7, g_b8, g_b9, g_b10, g_b11, g_b12, g_b13, g_b14, g_b15, g_b16⟩, hB, hT, hR, hN, hF, (by show upd CT 1 (c3 + 1) 0 = c2; rw [upd_o (by decide)]; exact hc2), upd_s, (by show upd CT 1 (c3 + 1) 2 = c4; rw [upd_o (by decide)]; exact hc4)⟩)
            · skip
              refine lv_aload_n hx hb dX10_play_77 rfl (lv_at hl 1 rfl) ?_
              refine m_get (ci := 8) (v := .int bd) (C := RX10) (T := TX10) (N := 21) hx hb hts in_X10_play_X10 hown hE hM g_y rfl 15 (by decide) (hts (.fieldLink RX10 61 "CallWays2Model" "bound" "I") (by decide +kernel)) (fun _ h9 => h9) rfl dX10_play_78 ?_
              refine lv_aload_n hx hb dX10_play_81 rfl (lv_at hl 1 rfl) ?_
              refine m_get (ci := 8) (v := .ref b3) (C := RX10) (T := TX10) (N := 21) hx hb hts in_X10_play_X10 hown hE hM g_y rfl 2 (by decide) (hts (.fieldLink RX10 16 "CallWays2Model" "laneOf" "[I") (by decide +kernel)) (fun _ h9 => h9) rfl dX10_play_82 ?_
              refine lv_iload hx hb dX10_play_85 (lv_at hl 0 rfl) ?_
              refine m_iald hx hb hE hM g_b3 (vp_in_nI hw24 (by decide)) dX10_play_87 ?_
              rw [show LN (nI w).toNatClampNeg = lane from by rw [nI_clamp (by omega), hLn]]
              refine lv_icmp_eq (tgt := 96) hx hb dX10_play_88 (by decide) (fun c_88 => ?_) (fun c_88 => ?_)
              · skip
                have hnk : ¬ (wy = 1 ∧ ¬ lane = bd) := na2 (not_not_intro c_88.symm)
                refine lv_iload hx hb dX10_play_96 (lv_at hl 7 rfl) ?_
                refine lv_if_ge (tgt := 106) hx hb dX10_play_98 (by decide) (fun c_98 => ?_) (fun c_98 => ?_)
                · skip
                  have hkl := Int32.not_lt.mpr c_98
                  obtain ⟨kn, hkn, ekn⟩ := nI_of hkl
                  refine lv_iload hx hb dX10_play_106 (lv_at hl 6 rfl) ?_
                  refine lv_if_lt (tgt := 130) hx hb dX10_play_108 (by decide) (fun c_108 => ?_) (fun c_108 => ?_)
                  · skip
                    have hpf : plF bk rw bd b wy fr n = -7 := hpw.trans (sI_7 hnk hkl (fun z => z.1 c_108))
                    refine lv_bipush (v := -7) hx hb dX10_play_130 (by decide) ?_
                    refine lv_goto (tgt := 136) hx hb dX10_play_132 (by decide) ?_
                    refine lv_istore (lv' := [(8, .int (-7)), (7, .int (nI w)), (0, .ref y), (1, .int (nI j)), (2, .int wy), (3, .int f0), (4, .int b), (5, .int fr), (6, .int n)]) hx hb dX10_play_136 hl (by decide) rfl (fun ls hl => ?_)
                    refine lv_iload hx hb dX10_play_138 (lv_at hl 0 rfl) ?_
                    refine lv_if_eq (tgt := 160) hx hb dX10_play_140 (by decide) (fun h9 => False.elim (by revert h9; exact (fun h => absurd h (by decide)))) (fun _ => ?_)
                    refine lv_aload_n hx hb dX10_play_143 rfl (lv_at hl 2 rfl) ?_
                    refine m_get (ci := 8) (v := .ref b14) (C := RX10) (T := TX10) (N := 21) hx hb hts in_X10_play_X10 hown hE hM g_y rfl 18 (by decide) (hts (.fieldLink RX10 52 "CallWays2Model" "counts" "[I") (by decide +kernel)) (fun _ h9 => h9) rfl dX10_play_144 ?_
                    refine lv_iconst (v := 1) hx hb dX10_play_147 (by decide) ?_
                    refine lv_dup2_11 hx hb dX10_play_148 rfl rfl ?_
                    refine m_iald hx hb hE hM g_b14 in3_1 dX10_play_149 ?_
                    rw [show CT (1 : Int32).toNatClampNeg = c3 from by show CT 1 = c3; exact hc3]
                    refine lv_iconst (v := 1) hx hb dX10_play_150 (by decide) ?_
                    refine lv_iadd hx hb dX10_play_151 ?_
                    refine m_iast hx hb hE hM hS g_b14 in3_1 dX10_play_152 (fun H locs hM hS => ?_)
                    rw [show upd CT (1 : Int32).toNatClampNeg (c3 + 1) = upd CT 1 (c3 + 1) from rfl] at hM
                    have hM : mOK E.1 (mA M sz) (mUp M b14 (mI E 3 (upd CT 1 (c3 + 1)))) H := hM
                    obtain ⟨M21, eM21⟩ : ∃ z, z = mUp M b14 (mI E 3 (upd CT 1 (c3 + 1))) := ⟨_, rfl⟩
                    rw [← eM21] at hM
                    have g_y_ : M21 y = some (mO 8 [.ref b1, .ref b2, .ref b3, .ref b4, .ref b5, .int (nI nn), .ref b6, .ref b7, .ref b8, .ref b9, .ref b10, .ref b11, .int (nI nf), .ref b12, .ref b13, .int bd, .int st, .int fa, .ref b14, .ref b15, .ref b16]) := by rw [eM21]; exact mUp_at (nd_ne hnd 0 14 rfl rfl (by decide)) g_y
                    have g_b1_ : M21 b1 = some (mI E 10 B) := by rw [eM21]; exact mUp_at (nd_ne hnd 1 14 rfl rfl (by decide)) g_b1
                    have g_b2_ : M21 b2 = some (mI E 12 T) := by rw [eM21]; exact mUp_at (nd_ne hnd 2 14 rfl rfl (by decide)) g_b2
                    have g_b3_ : M21 b3 = some (mI E 24 LN) := by rw [eM21]; exact mUp_at (nd_ne hnd 3 14 rfl rfl (by decide)) g_b3
                    have g_b4_ : M21 b4 = some (mI E 24 SZ) := by rw [eM21]; exact mUp_at (nd_ne hnd 4 14 rfl rfl (by decide)) g_b4
                    have g_b5_ : M21 b5 = some (mJ E 960 SM) := by rw [eM21]; exact mUp_at (nd_ne hnd 5 14 rfl rfl (by decide)) g_b5
                    have g_b6_ : M21 b6 = some (mI E 12 SO) := by rw [eM21]; exact mUp_at (nd_ne hnd 6 14 rfl rfl (by decide)) g_b6
                    have g_b7_ : M21 b7 = some (mI E 48 KN) := by rw [eM21]; exact mUp_at (nd_ne hnd 7 14 rfl rfl (by decide)) g_b7
                    have g_b8_ : M21 b8 = some (mI E 12 PI) := by rw [eM21]; exact mUp_at (nd_ne hnd 8 14 rfl rfl (by decide)) g_b8
                    have g_b9_ : M21 b9 = some (mZ E 12 ON) := by rw [eM21]; exact mUp_at (nd_ne hnd 9 14 rfl rfl (by decide)) g_b9
                    have g_b10_ : M21 b10 = some (mI E 12 PH) := by rw [eM21]; exact mUp_at (nd_ne hnd 10 14 rfl rfl (by decide)) g_b10
                    have g_b11_ : M21 b11 = some (mDb E 12 LE) := by rw [eM21]; exact mUp_at (nd_ne hnd 11 14 rfl rfl (by decide)) g_b11
                    have g_b12_ : M21 b12 = some (mI E 8 KD) := by rw [eM21]; exact mUp_at (nd_ne hnd 12 14 rfl rfl (by decide)) g_b12
                    have g_b13_ : M21 b13 = some (mI E 8 NM) := by rw [eM21]; exact mUp_at (nd_ne hnd 13 14 rfl rfl (by decide)) g_b13
                    have g_b15_ : M21 b15 = some (mDb E 40 CM) := by rw [eM21]; exact mUp_at (nd_ne hnd 15 14 rfl rfl (by decide)) g_b15
                    have g_b16_ : M21 b16 = some (mJ E 40 MV) := by rw [eM21]; exact mUp_at (nd_ne hnd 16 14 rfl rfl (by decide)) g_b16
                    have g_y := g_y_
                    have g_b1 := g_b1_
                    have g_b2 := g_b2_
                    have g_b3 := g_b3_
                    have g_b4 := g_b4_
                    have g_b5 := g_b5_
                    have g_b6 := g_b6_
                    have g_b7 := g_b7_
                    have g_b8 := g_b8_
                    have g_b9 := g_b9_
                    have g_b10 := g_b10_
                    have g_b11 := g_b11_
                    have g_b12 := g_b12_
                    have g_b13 := g_b13_
                    have g_b15 := g_b15_
                    have g_b16 := g_b16_
                    have g_b14 : M21 b14 = some (mI E 3 (upd CT 1 (c3 + 1))) := by rw [eM21]; exact mUp_self _ _ _
                    have hk : kept (nol y b1 b2 b3 b4 b5 b6 b7 b8 b9 b10 b11 b12 b13 b14 b15 b16) M M21 := (by rw [eM21]; exact hk.up (nol_in 14 rfl))
                    refine lv_aload_n hx hb dX10_play_153 rfl (lv_at hl 2 rfl) ?_
                    refine lv_iload hx hb dX10_play_154 (lv_at hl 0 rfl) ?_
                    refine m_calli (va_runV (As := [.int (-7 : Int32)]) (rest := []) ⟨hx, hb, hml, hown, hts⟩ (c_X10_says l E M21 H.size y b1 b2 b3 b4 b5 b6 b7 b8 b9 b10 b11 b12 b13 b14 b15 b16 (nI nn) (nI nf) bd st fa (-7 : Int32) g_y) (cwV 1 hts gX10_play_X10_says rfl rfl rfl (by decide +kernel) ⟨Nat.le_of_ble_eq_true rfl, Nat.le_of_ble_eq_true rfl⟩) (m_preV hE hM g_y rfl) rfl rfl hl.1 rfl (lv_room (Nat.le_of_ble_eq_true rfl)) dX10_play_156 ⟨Nat.le_of_ble_eq_true rfl, Nat.le_of_ble_eq_true rfl⟩) hM hS hA (fun r2 M22 H locs hw hM hS => ?_)
                    obtain ⟨e_r2, eM22⟩ := hw
                    subst e_r2
                    have g_b1_ : M22 b1 = some (mI E 10 B) := by rw [eM22]; exact mUp_at (nd_ne hnd 1 0 rfl rfl (by decide)) g_b1
                    have g_b2_ : M22 b2 = some (mI E 12 T) := by rw [eM22]; exact mUp_at (nd_ne hnd 2 0 rfl rfl (by decide)) g_b2
                    have g_b3_ : M22 b3 = some (mI E 24 LN) := by rw [eM22]; exact mUp_at (nd_ne hnd 3 0 rfl rfl (by decide)) g_b3
                    have g_b4_ : M22 b4 = some (mI E 24 SZ) := by rw [eM22]; exact mUp_at (nd_ne hnd 4 0 rfl rfl (by decide)) g_b4
                    have g_b5_ : M22 b5 = some (mJ E 960 SM) := by rw [eM22]; exact mUp_at (nd_ne hnd 5 0 rfl rfl (by decide)) g_b5
                    have g_b6_ : M22 b6 = some (mI E 12 SO) := by rw [eM22]; exact mUp_at (nd_ne hnd 6 0 rfl rfl (by decide)) g_b6
                    have g_b7_ : M22 b7 = some (mI E 48 KN) := by rw [eM22]; exact mUp_at (nd_ne hnd 7 0 rfl rfl (by decide)) g_b7
                    have g_b8_ : M22 b8 = some (mI E 12 PI) := by rw [eM22]; exact mUp_at (nd_ne hnd 8 0 rfl rfl (by decide)) g_b8
                    have g_b9_ : M22 b9 = some (mZ E 12 ON) := by rw [eM22]; exact mUp_at (nd_ne hnd 9 0 rfl rfl (by decide)) g_b9
                    have g_b10_ : M22 b10 = some (mI E 12 PH) := by rw [eM22]; exact mUp_at (nd_ne hnd 10 0 rfl rfl (by decide)) g_b10
                    have g_b11_ : M22 b11 = some (mDb E 12 LE) := by rw [eM22]; exact mUp_at (nd_ne hnd 11 0 rfl rfl (by decide)) g_b11
                    have g_b12_ : M22 b12 = some (mI E 8 KD) := by rw [eM22]; exact mUp_at (nd_ne hnd 12 0 rfl rfl (by decide)) g_b12
                    have g_b13_ : M22 b13 = some (mI E 8 NM) := by rw [eM22]; exact mUp_at (nd_ne hnd 13 0 rfl rfl (by decide)) g_b13
                    have g_b14_ : M22 b14 = some (mI E 3 (upd CT 1 (c3 + 1))) := by rw [eM22]; exact mUp_at (nd_ne hnd 14 0 rfl rfl (by decide)) g_b14
                    have g_b15_ : M22 b15 = some (mDb E 40 CM) := by rw [eM22]; exact mUp_at (nd_ne hnd 15 0 rfl rfl (by decide)) g_b15
                    have g_b16_ : M22 b16 = some (mJ E 40 MV) := by rw [eM22]; exact mUp_at (nd_ne hnd 16 0 rfl rfl (by decide)) g_b16
                    have g_b1 := g_b1_
                    have g_b2 := g_b2_
                    have g_b3 := g_b3_
                    have g_b4 := g_b4_
                    have g_b5 := g_b5_
                    have g_b6 := g_b6_
                    have g_b7 := g_b7_
                    have g_b8 := g_b8_
                    have g_b9 := g_b9_
                    have g_b10 := g_b10_
                    have g_b11 := g_b11_
                    have g_b12 := g_b12_
                    have g_b13 := g_b13_
                    have g_b14 := g_b14_
                    have g_b15 := g_b15_
                    have g_b16 := g_b16_
                    have g_y : M22 y = some (mO 8 [.ref b1, .ref b2, .ref b3, .ref b4, .ref b5, .int (nI nn), .ref b6, .ref b7, .ref b8, .ref b9, .ref b10, .ref b11, .int (nI nf), .ref b12, .ref b13, .int bd, .int (if (-7 : Int32) < 0 then (-7 : Int32) else 0), .int fa, .ref b14, .ref b15, .ref b16]) := by rw [eM22]; exact mUp_self _ _ _
                    have hk : kept (nol y b1 b2 b3 b4 b5 b6 b7 b8 b9 b10 b11 b12 b13 b14 b15 b16) M M22 := (by rw [eM22]; exact hk.up (nol_in 0 rfl))
                    rw [if_pos (show (-7 : Int32) < 0 by decide)] at g_y
                    exact m_iret hx hb hr hlocks hM hS (Nat.le_refl _) (Nat.le_refl _) dX10_play_159 (by refine ⟨(by show _ = (if vPl nn nf (nI j) wy f0 b then (if plF bk rw bd b wy fr n = 0 then _ else plF bk rw bd b wy fr n) else -1); rw [if_pos hvp, hpf]; rfl), ?_, hk⟩; show mR E _ y b1 b2 b3 b4 b5 b6 b7 b8 b9 b10 b11 b12 b13 b14 b15 b16 (if vPl nn nf (nI j) wy f0 b then (if plF bk rw bd b wy fr n = 0 then _ else (nn, ins, nf, fn, bk, rw, bd, plF bk rw bd b wy fr n, c2, c3 + 1, c4)) else _); rw [if_pos hvp, hpf]; rw [if_neg (by decide)]; exact ⟨_, _, _, _, _, _, _, _, _, _, _, _, _, _, _, _, _, ⟨g_y, g_b1, g_b2, g_b3, g_b4, g_b5, g_b6, g_b7, g_b8, g_b9, g_b10, g_b11, g_b12, g_b13, g_b14, g_b15, g_b16⟩, hB, hT, hR, hN, hF, (by show upd CT 1 (c3 + 1) 0 = c2; rw [upd_o (by decide)]; exact hc2), upd_s, (by show upd CT 1 (c3 + 1) 2 = c4; rw [upd_o (by decide)]; exact hc4)⟩)
                  · skip
                    obtain ⟨a9, ha9, ea9⟩ := nI_of c_108
                    refine lv_iload hx hb dX10_play_111 (lv_at hl 6 rfl) ?_
                    refine lv_i2l hx hb dX10_play_113 rfl ?_
                    refine lv_iload hx hb dX10_play_114 (lv_at hl 7 rfl) ?_
                    refine lv_i2l hx hb dX10_play_116 rfl ?_
                    refine lv_ladd hx hb dX10_play_117 ?_
                    refine lv_aload_n hx hb dX10_play_118 rfl (lv_at hl 1 rfl) ?_
                    refine m_get (ci := 8) (v := .ref b4) (C := RX10) (T := TX10) (N := 21) hx hb hts in_X10_play_X10 hown hE hM g_y rfl 3 (by decide) (hts (.fieldLink RX10 19 "CallWays2Model" "sizeOf" "[I") (by decide +kernel)) (fun _ h9 => h9) rfl dX10_play_119 ?_
                    refine lv_iload hx hb dX10_play_122 (lv_at hl 0 rfl) ?_
                    refine m_iald hx hb hE hM g_b4 (vp_in_nI hw24 (by decide)) dX10_play_124 ?_
                    rw [show SZ (nI w).toNatClampNeg = nI n0 from by rw [nI_clamp (by omega), hSz]]
                    refine lv_i2l hx hb dX10_play_125 rfl ?_
                    refine W.lcmp hx hb dX10_play_126 ?_
                    refine lv_if_le (tgt := 135) hx hb dX10_play_127 (by decide) (fun c_127 => ?_) (fun c_127 => ?_)
                    · skip
                      replace c_127 := Int32.not_lt.mpr c_127
                      rw [ea9, ekn, lsum (by omega) ha9 hkn, Classical.not_not] at c_127
                      have hspn : spn n0 fr n := (by rw [ea9, ekn]; exact (spn_iff (by omega) ha9 hkn).mpr c_127)
                      have hpf : plF bk rw bd b wy fr n = 0 := hpw.trans (sI_0 hnk hkl hspn)
                      refine lv_iconst (v := 0) hx hb dX10_play_135 (by decide) ?_
                      refine lv_istore (lv' := [(8, .int 0), (7, .int (nI w)), (0, .ref y), (1, .int (nI j)), (2, .int wy), (3, .int f0), (4, .int b), (5, .int fr), (6, .int n)]) hx hb dX10_play_136 hl (by decide) rfl (fun ls hl => ?_)
                      refine lv_iload hx hb dX10_play_138 (lv_at hl 0 rfl) ?_
                      refine lv_if_eq (tgt := 160) hx hb dX10_play_140 (by decide) (fun _ => ?_) (fun h9 => False.elim (by revert h9; exact (fun h => h rfl)))
                      exact core hpf hspn ls (lv_sub hl [0, 1, 2, 3, 4, 5, 6, 7, 8] rfl)
                    · skip
                      replace c_127 := Int32.not_le.mp c_127
                      rw [ea9, ekn, lsum (by omega) ha9 hkn] at c_127
                      have hpf : plF bk rw bd b wy fr n = -7 := hpw.trans (sI_7 hnk hkl (fun z => c_127 ((spn_iff (by omega) ha9 hkn).mp (by rw [← ea9, ← ekn]; exact z))))
                      refine lv_bipush (v := -7) hx hb dX10_play_130 (by decide) ?_
                      refine lv_goto (tgt := 136) hx hb dX10_play_132 (by decide) ?_
                      refine lv_istore (lv' := [(8, .int (-7)), (7, .int (nI w)), (0, .ref y), (1, .int (nI j)), (2, .int wy), (3, .int f0), (4, .int b), (5, .int fr), (6, .int n)]) hx hb dX10_play_136 hl (by decide) rfl (fun ls hl => ?_)
                      refine lv_iload hx hb dX10_play_138 (lv_at hl 0 rfl) ?_
                      refine lv_if_eq (tgt := 160) hx hb dX10_play_140 (by decide) (fun h9 => False.elim (by revert h9; exact (fun h => absurd h (by decide)))) (fun _ => ?_)
                      refine lv_aload_n hx hb dX10_play_143 rfl (lv_at hl 2 rfl) ?_
                      refine m_get (ci := 8) (v := .ref b14) (C := RX10) (T := TX10) (N := 21) hx hb hts in_X10_play_X10 hown hE hM g_y rfl 18 (by decide) (hts (.fieldLink RX10 52 "CallWays2Model" "counts" "[I") (by decide +kernel)) (fun _ h9 => h9) rfl dX10_play_144 ?_
                      refine lv_iconst (v := 1) hx hb dX10_play_147 (by decide) ?_
                      refine lv_dup2_11 hx hb dX10_play_148 rfl rfl ?_
                      refine m_iald hx hb hE hM g_b14 in3_1 dX10_play_149 ?_
                      rw [show CT (1 : Int32).toNatClampNeg = c3 from by show CT 1 = c3; exact hc3]
                      refine lv_iconst (v := 1) hx hb dX10_play_150 (by decide) ?_
                      refine lv_iadd hx hb dX10_play_151 ?_
                      refine m_iast hx hb hE hM hS g_b14 in3_1 dX10_play_152 (fun H locs hM hS => ?_)
                      rw [show upd CT (1 : Int32).toNatClampNeg (c3 + 1) = upd CT 1 (c3 + 1) from rfl] at hM
                      have hM : mOK E.1 (mA M sz) (mUp M b14 (mI E 3 (upd CT 1 (c3 + 1)))) H := hM
                      obtain ⟨M23, eM23⟩ : ∃ z, z = mUp M b14 (mI E 3 (upd CT 1 (c3 + 1))) := ⟨_, rfl⟩
                      rw [← eM23] at hM
                      have g_y_ : M23 y = some (mO 8 [.ref b1, .ref b2, .ref b3, .ref b4, .ref b5, .int (nI nn), .ref b6, .ref b7, .ref b8, .ref b9, .ref b10, .ref b11, .int (nI nf), .ref b12, .ref b13, .int bd, .int st, .int fa, .ref b14, .ref b15, .ref b16]) := by rw [eM23]; exact mUp_at (nd_ne hnd 0 14 rfl rfl (by decide)) g_y
                      have g_b1_ : M23 b1 = some (mI E 10 B) := by rw [eM23]; exact mUp_at (nd_ne hnd 1 14 rfl rfl (by decide)) g_b1
                      have g_b2_ : M23 b2 = some (mI E 12 T) := by rw [eM23]; exact mUp_at (nd_ne hnd 2 14 rfl rfl (by decide)) g_b2
                      have g_b3_ : M23 b3 = some (mI E 24 LN) := by rw [eM23]; exact mUp_at (nd_ne hnd 3 14 rfl rfl (by decide)) g_b3
                      have g_b4_ : M23 b4 = some (mI E 24 SZ) := by rw [eM23]; exact mUp_at (nd_ne hnd 4 14 rfl rfl (by decide)) g_b4
                      have g_b5_ : M23 b5 = some (mJ E 960 SM) := by rw [eM23]; exact mUp_at (nd_ne hnd 5 14 rfl rfl (by decide)) g_b5
                      have g_b6_ : M23 b6 = some (mI E 12 SO) := by rw [eM23]; exact mUp_at (nd_ne hnd 6 14 rfl rfl (by decide)) g_b6
                      have g_b7_ : M23 b7 = some (mI E 48 KN) := by rw [eM23]; exact mUp_at (nd_ne hnd 7 14 rfl rfl (by decide)) g_b7
                      have g_b8_ : M23 b8 = some (mI E 12 PI) := by rw [eM23]; exact mUp_at (nd_ne hnd 8 14 rfl rfl (by decide)) g_b8
                      have g_b9_ : M23 b9 = some (mZ E 12 ON) := by rw [eM23]; exact mUp_at (nd_ne hnd 9 14 rfl rfl (by decide)) g_b9
                      have g_b10_ : M23 b10 = some (mI E 12 PH) := by rw [eM23]; exact mUp_at (nd_ne hnd 10 14 rfl rfl (by decide)) g_b10
                      have g_b11_ : M23 b11 = some (mDb E 12 LE) := by rw [eM23]; exact mUp_at (nd_ne hnd 11 14 rfl rfl (by decide)) g_b11
                      have g_b12_ : M23 b12 = some (mI E 8 KD) := by rw [eM23]; exact mUp_at (nd_ne hnd 12 14 rfl rfl (by decide)) g_b12
                      have g_b13_ : M23 b13 = some (mI E 8 NM) := by rw [eM23]; exact mUp_at (nd_ne hnd 13 14 rfl rfl (by decide)) g_b13
                      have g_b15_ : M23 b15 = some (mDb E 40 CM) := by rw [eM23]; exact mUp_at (nd_ne hnd 15 14 rfl rfl (by decide)) g_b15
                      have g_b16_ : M23 b16 = some (mJ E 40 MV) := by rw [eM23]; exact mUp_at (nd_ne hnd 16 14 rfl rfl (by decide)) g_b16
                      have g_y := g_y_
                      have g_b1 := g_b1_
                      have g_b2 := g_b2_
                      have g_b3 := g_b3_
                      have g_b4 := g_b4_
                      have g_b5 := g_b5_
                      have g_b6 := g_b6_
                      have g_b7 := g_b7_
                      have g_b8 := g_b8_
                      have g_b9 := g_b9_
                      have g_b10 := g_b10_
                      have g_b11 := g_b11_
                      have g_b12 := g_b12_
                      have g_b13 := g_b13_
                      have g_b15 := g_b15_
                      have g_b16 := g_b16_
                      have g_b14 : M23 b14 = some (mI E 3 (upd CT 1 (c3 + 1))) := by rw [eM23]; exact mUp_self _ _ _
                      have hk : kept (nol y b1 b2 b3 b4 b5 b6 b7 b8 b9 b10 b11 b12 b13 b14 b15 b16) M M23 := (by rw [eM23]; exact hk.up (nol_in 14 rfl))
                      refine lv_aload_n hx hb dX10_play_153 rfl (lv_at hl 2 rfl) ?_
                      refine lv_iload hx hb dX10_play_154 (lv_at hl 0 rfl) ?_
                      refine m_calli (va_runV (As := [.int (-7 : Int32)]) (rest := []) ⟨hx, hb, hml, hown, hts⟩ (c_X10_says l E M23 H.size y b1 b2 b3 b4 b5 b6 b7 b8 b9 b10 b11 b12 b13 b14 b15 b16 (nI nn) (nI nf) bd st fa (-7 : Int32) g_y) (cwV 1 hts gX10_play_X10_says rfl rfl rfl (by decide +kernel) ⟨Nat.le_of_ble_eq_true rfl, Nat.le_of_ble_eq_true rfl⟩) (m_preV hE hM g_y rfl) rfl rfl hl.1 rfl (lv_room (Nat.le_of_ble_eq_true rfl)) dX10_play_156 ⟨Nat.le_of_ble_eq_true rfl, Nat.le_of_ble_eq_true rfl⟩) hM hS hA (fun r2 M24 H locs hw hM hS => ?_)
                      obtain ⟨e_r2, eM24⟩ := hw
                      subst e_r2
                      have g_b1_ : M24 b1 = some (mI E 10 B) := by rw [eM24]; exact mUp_at (nd_ne hnd 1 0 rfl rfl (by decide)) g_b1
                      have g_b2_ : M24 b2 = some (mI E 12 T) := by rw [eM24]; exact mUp_at (nd_ne hnd 2 0 rfl rfl (by decide)) g_b2
                      have g_b3_ : M24 b3 = some (mI E 24 LN) := by rw [eM24]; exact mUp_at (nd_ne hnd 3 0 rfl rfl (by decide)) g_b3
                      have g_b4_ : M24 b4 = some (mI E 24 SZ) := by rw [eM24]; exact mUp_at (nd_ne hnd 4 0 rfl rfl (by decide)) g_b4
                      have g_b5_ : M24 b5 = some (mJ E 960 SM) := by rw [eM24]; exact mUp_at (nd_ne hnd 5 0 rfl rfl (by decide)) g_b5
                      have g_b6_ : M24 b6 = some (mI E 12 SO) := by rw [eM24]; exact mUp_at (nd_ne hnd 6 0 rfl rfl (by decide)) g_b6
                      have g_b7_ : M24 b7 = some (mI E 48 KN) := by rw [eM24]; exact mUp_at (nd_ne hnd 7 0 rfl rfl (by decide)) g_b7
                      have g_b8_ : M24 b8 = some (mI E 12 PI) := by rw [eM24]; exact mUp_at (nd_ne hnd 8 0 rfl rfl (by decide)) g_b8
                      have g_b9_ : M24 b9 = some (mZ E 12 ON) := by rw [eM24]; exact mUp_at (nd_ne hnd 9 0 rfl rfl (by decide)) g_b9
                      have g_b10_ : M24 b10 = some (mI E 12 PH) := by rw [eM24]; exact mUp_at (nd_ne hnd 10 0 rfl rfl (by decide)) g_b10
                      have g_b11_ : M24 b11 = some (mDb E 12 LE) := by rw [eM24]; exact mUp_at (nd_ne hnd 11 0 rfl rfl (by decide)) g_b11
                      have g_b12_ : M24 b12 = some (mI E 8 KD) := by rw [eM24]; exact mUp_at (nd_ne hnd 12 0 rfl rfl (by decide)) g_b12
                      have g_b13_ : M24 b13 = some (mI E 8 NM) := by rw [eM24]; exact mUp_at (nd_ne hnd 13 0 rfl rfl (by decide)) g_b13
                      have g_b14_ : M24 b14 = some (mI E 3 (upd CT 1 (c3 + 1))) := by rw [eM24]; exact mUp_at (nd_ne hnd 14 0 rfl rfl (by decide)) g_b14
                      have g_b15_ : M24 b15 = some (mDb E 40 CM) := by rw [eM24]; exact mUp_at (nd_ne hnd 15 0 rfl rfl (by decide)) g_b15
                      have g_b16_ : M24 b16 = some (mJ E 40 MV) := by rw [eM24]; exact mUp_at (nd_ne hnd 16 0 rfl rfl (by decide)) g_b16
                      have g_b1 := g_b1_
                      have g_b2 := g_b2_
                      have g_b3 := g_b3_
                      have g_b4 := g_b4_
                      have g_b5 := g_b5_
                      have g_b6 := g_b6_
                      have g_b7 := g_b7_
                      have g_b8 := g_b8_
                      have g_b9 := g_b9_
                      have g_b10 := g_b10_
                      have g_b11 := g_b11_
                      have g_b12 := g_b12_
                      have g_b13 := g_b13_
                      have g_b14 := g_b14_
                      have g_b15 := g_b15_
                      have g_b16 := g_b16_
                      have g_y : M24 y = some (mO 8 [.ref b1, .ref b2, .ref b3, .ref b4, .ref b5, .int (nI nn), .ref b6, .ref b7, .ref b8, .ref b9, .ref b10, .ref b11, .int (nI nf), .ref b12, .ref b13, .int bd, .int (if (-7 : Int32) < 0 then (-7 : Int32) else 0), .int fa, .ref b14, .ref b15, .ref b16]) := by rw [eM24]; exact mUp_self _ _ _
                      have hk : kept (nol y b1 b2 b3 b4 b5 b6 b7 b8 b9 b10 b11 b12 b13 b14 b15 b16) M M24 := (by rw [eM24]; exact hk.up (nol_in 0 rfl))
                      rw [if_pos (show (-7 : Int32) < 0 by decide)] at g_y
                      exact m_iret hx hb hr hlocks hM hS (Nat.le_refl _) (Nat.le_refl _) dX10_play_159 (by refine ⟨(by show _ = (if vPl nn nf (nI j) wy f0 b then (if plF bk rw bd b wy fr n = 0 then _ else plF bk rw bd b wy fr n) else -1); rw [if_pos hvp, hpf]; rfl), ?_, hk⟩; show mR E _ y b1 b2 b3 b4 b5 b6 b7 b8 b9 b10 b11 b12 b13 b14 b15 b16 (if vPl nn nf (nI j) wy f0 b then (if plF bk rw bd b wy fr n = 0 then _ else (nn, ins, nf, fn, bk, rw, bd, plF bk rw bd b wy fr n, c2, c3 + 1, c4)) else _); rw [if_pos hvp, hpf]; rw [if_neg (by decide)]; exact ⟨_, _, _, _, _, _, _, _, _, _, _, _, _, _, _, _, _, ⟨g_y, g_b1, g_b2, g_b3, g_b4, g_b5, g_b6, g_b7, g_b8, g_b9, g_b10, g_b11, g_b12, g_b13, g_b14, g_b15, g_b16⟩, hB, hT, hR, hN, hF, (by show upd CT 1 (c3 + 1) 0 = c2; rw [upd_o (by decide)]; exact hc2), upd_s, (by show upd CT 1 (c3 + 1) 2 = c4; rw [upd_o (by decide)]; exact hc4)⟩)
                · skip
                  have hpf : plF bk rw bd b wy fr n = -8 := hpw.trans (sI_8 hnk (Int32.not_le.mp c_98))
                  refine lv_bipush (v := -8) hx hb dX10_play_101 (by decide) ?_
                  refine lv_goto (tgt := 136) hx hb dX10_play_103 (by decide) ?_
                  refine lv_istore (lv' := [(8, .int (-8)), (7, .int (nI w)), (0, .ref y), (1, .int (nI j)), (2, .int wy), (3, .int f0), (4, .int b), (5, .int fr), (6, .int n)]) hx hb dX10_play_136 hl (by decide) rfl (fun ls hl => ?_)
                  refine lv_iload hx hb dX10_play_138 (lv_at hl 0 rfl) ?_
                  refine lv_if_eq (tgt := 160) hx hb dX10_play_140 (by decide) (fun h9 => False.elim (by revert h9; exact (fun h => absurd h (by decide)))) (fun _ => ?_)
                  refine lv_aload_n hx hb dX10_play_143 rfl (lv_at hl 2 rfl) ?_
                  refine m_get (ci := 8) (v := .ref b14) (C := RX10) (T := TX10) (N := 21) hx hb hts in_X10_play_X10 hown hE hM g_y rfl 18 (by decide) (hts (.fieldLink RX10 52 "CallWays2Model" "counts" "[I") (by decide +kernel)) (fun _ h9 => h9) rfl dX10_play_144 ?_
                  refine lv_iconst (v := 1) hx hb dX10_play_147 (by decide) ?_
                  refine lv_dup2_11 hx hb dX10_play_148 rfl rfl ?_
                  refine m_iald hx hb hE hM g_b14 in3_1 dX10_play_149 ?_
                  rw [show CT (1 : Int32).toNatClampNeg = c3 from by show CT 1 = c3; exact hc3]
                  refine lv_iconst (v := 1) hx hb dX10_play_150 (by decide) ?_
                  refine lv_iadd hx hb dX10_play_151 ?_
                  refine m_iast hx hb hE hM hS g_b14 in3_1 dX10_play_152 (fun H locs hM hS => ?_)
                  rw [show upd CT (1 : Int32).toNatClampNeg (c3 + 1) = upd CT 1 (c3 + 1) from rfl] at hM
                  have hM : mOK E.1 (mA M sz) (mUp M b14 (mI E 3 (upd CT 1 (c3 + 1)))) H := hM
                  obtain ⟨M25, eM25⟩ : ∃ z, z = mUp M b14 (mI E 3 (upd CT 1 (c3 + 1))) := ⟨_, rfl⟩
                  rw [← eM25] at hM
                  have g_y_ : M25 y = some (mO 8 [.ref b1, .ref b2, .ref b3, .ref b4, .ref b5, .int (nI nn), .ref b6, .ref b7, .ref b8, .ref b9, .ref b10, .ref b11, .int (nI nf), .ref b12, .ref b13, .int bd, .int st, .int fa, .ref b14, .ref b15, .ref b16]) := by rw [eM25]; exact mUp_at (nd_ne hnd 0 14 rfl rfl (by decide)) g_y
                  have g_b1_ : M25 b1 = some (mI E 10 B) := by rw [eM25]; exact mUp_at (nd_ne hnd 1 14 rfl rfl (by decide)) g_b1
                  have g_b2_ : M25 b2 = some (mI E 12 T) := by rw [eM25]; exact mUp_at (nd_ne hnd 2 14 rfl rfl (by decide)) g_b2
                  have g_b3_ : M25 b3 = some (mI E 24 LN) := by rw [eM25]; exact mUp_at (nd_ne hnd 3 14 rfl rfl (by decide)) g_b3
                  have g_b4_ : M25 b4 = some (mI E 24 SZ) := by rw [eM25]; exact mUp_at (nd_ne hnd 4 14 rfl rfl (by decide)) g_b4
                  have g_b5_ : M25 b5 = some (mJ E 960 SM) := by rw [eM25]; exact mUp_at (nd_ne hnd 5 14 rfl rfl (by decide)) g_b5
                  have g_b6_ : M25 b6 = some (mI E 12 SO) := by rw [eM25]; exact mUp_at (nd_ne hnd 6 14 rfl rfl (by decide)) g_b6
                  have g_b7_ : M25 b7 = some (mI E 48 KN) := by rw [eM25]; exact mUp_at (nd_ne hnd 7 14 rfl rfl (by decide)) g_b7
                  have g_b8_ : M25 b8 = some (mI E 12 PI) := by rw [eM25]; exact mUp_at (nd_ne hnd 8 14 rfl rfl (by decide)) g_b8
                  have g_b9_ : M25 b9 = some (mZ E 12 ON) := by rw [eM25]; exact mUp_at (nd_ne hnd 9 14 rfl rfl (by decide)) g_b9
                  have g_b10_ : M25 b10 = some (mI E 12 PH) := by rw [eM25]; exact mUp_at (nd_ne hnd 10 14 rfl rfl (by decide)) g_b10
                  have g_b11_ : M25 b11 = some (mDb E 12 LE) := by rw [eM25]; exact mUp_at (nd_ne hnd 11 14 rfl rfl (by decide)) g_b11
                  have g_b12_ : M25 b12 = some (mI E 8 KD) := by rw [eM25]; exact mUp_at (nd_ne hnd 12 14 rfl rfl (by decide)) g_b12
                  have g_b13_ : M25 b13 = some (mI E 8 NM) := by rw [eM25]; exact mUp_at (nd_ne hnd 13 14 rfl rfl (by decide)) g_b13
                  have g_b15_ : M25 b15 = some (mDb E 40 CM) := by rw [eM25]; exact mUp_at (nd_ne hnd 15 14 rfl rfl (by decide)) g_b15
                  have g_b16_ : M25 b16 = some (mJ E 40 MV) := by rw [eM25]; exact mUp_at (nd_ne hnd 16 14 rfl rfl (by decide)) g_b16
                  have g_y := g_y_
                  have g_b1 := g_b1_
                  have g_b2 := g_b2_
                  have g_b3 := g_b3_
                  have g_b4 := g_b4_
                  have g_b5 := g_b5_
                  have g_b6 := g_b6_
                  have g_b7 := g_b7_
                  have g_b8 := g_b8_
                  have g_b9 := g_b9_
                  have g_b10 := g_b10_
                  have g_b11 := g_b11_
                  have g_b12 := g_b12_
                  have g_b13 := g_b13_
                  have g_b15 := g_b15_
                  have g_b16 := g_b16_
                  have g_b14 : M25 b14 = some (mI E 3 (upd CT 1 (c3 + 1))) := by rw [eM25]; exact mUp_self _ _ _
                  have hk : kept (nol y b1 b2 b3 b4 b5 b6 b7 b8 b9 b10 b11 b12 b13 b14 b15 b16) M M25 := (by rw [eM25]; exact hk.up (nol_in 14 rfl))
                  refine lv_aload_n hx hb dX10_play_153 rfl (lv_at hl 2 rfl) ?_
                  refine lv_iload hx hb dX10_play_154 (lv_at hl 0 rfl) ?_
                  refine m_calli (va_runV (As := [.int (-8 : Int32)]) (rest := []) ⟨hx, hb, hml, hown, hts⟩ (c_X10_says l E M25 H.size y b1 b2 b3 b4 b5 b6 b7 b8 b9 b10 b11 b12 b13 b14 b15 b16 (nI nn) (nI nf) bd st fa (-8 : Int32) g_y) (cwV 1 hts gX10_play_X10_says rfl rfl rfl (by decide +kernel) ⟨Nat.le_of_ble_eq_true rfl, Nat.le_of_ble_eq_true rfl⟩) (m_preV hE hM g_y rfl) rfl rfl hl.1 rfl (lv_room (Nat.le_of_ble_eq_true rfl)) dX10_play_156 ⟨Nat.le_of_ble_eq_true rfl, Nat.le_of_ble_eq_true rfl⟩) hM hS hA (fun r2 M26 H locs hw hM hS => ?_)
                  obtain ⟨e_r2, eM26⟩ := hw
                  subst e_r2
                  have g_b1_ : M26 b1 = some (mI E 10 B) := by rw [eM26]; exact mUp_at (nd_ne hnd 1 0 rfl rfl (by decide)) g_b1
                  have g_b2_ : M26 b2 = some (mI E 12 T) := by rw [eM26]; exact mUp_at (nd_ne hnd 2 0 rfl rfl (by decide)) g_b2
                  have g_b3_ : M26 b3 = some (mI E 24 LN) := by rw [eM26]; exact mUp_at (nd_ne hnd 3 0 rfl rfl (by decide)) g_b3
                  have g_b4_ : M26 b4 = some (mI E 24 SZ) := by rw [eM26]; exact mUp_at (nd_ne hnd 4 0 rfl rfl (by decide)) g_b4
                  have g_b5_ : M26 b5 = some (mJ E 960 SM) := by rw [eM26]; exact mUp_at (nd_ne hnd 5 0 rfl rfl (by decide)) g_b5
                  have g_b6_ : M26 b6 = some (mI E 12 SO) := by rw [eM26]; exact mUp_at (nd_ne hnd 6 0 rfl rfl (by decide)) g_b6
                  have g_b7_ : M26 b7 = some (mI E 48 KN) := by rw [eM26]; exact mUp_at (nd_ne hnd 7 0 rfl rfl (by decide)) g_b7
                  have g_b8_ : M26 b8 = some (mI E 12 PI) := by rw [eM26]; exact mUp_at (nd_ne hnd 8 0 rfl rfl (by decide)) g_b8
                  have g_b9_ : M26 b9 = some (mZ E 12 ON) := by rw [eM26]; exact mUp_at (nd_ne hnd 9 0 rfl rfl (by decide)) g_b9
                  have g_b10_ : M26 b10 = some (mI E 12 PH) := by rw [eM26]; exact mUp_at (nd_ne hnd 10 0 rfl rfl (by decide)) g_b10
                  have g_b11_ : M26 b11 = some (mDb E 12 LE) := by rw [eM26]; exact mUp_at (nd_ne hnd 11 0 rfl rfl (by decide)) g_b11
                  have g_b12_ : M26 b12 = some (mI E 8 KD) := by rw [eM26]; exact mUp_at (nd_ne hnd 12 0 rfl rfl (by decide)) g_b12
                  have g_b13_ : M26 b13 = some (mI E 8 NM) := by rw [eM26]; exact mUp_at (nd_ne hnd 13 0 rfl rfl (by decide)) g_b13
                  have g_b14_ : M26 b14 = some (mI E 3 (upd CT 1 (c3 + 1))) := by rw [eM26]; exact mUp_at (nd_ne hnd 14 0 rfl rfl (by decide)) g_b14
                  have g_b15_ : M26 b15 = some (mDb E 40 CM) := by rw [eM26]; exact mUp_at (nd_ne hnd 15 0 rfl rfl (by decide)) g_b15
                  have g_b16_ : M26 b16 = some (mJ E 40 MV) := by rw [eM26]; exact mUp_at (nd_ne hnd 16 0 rfl rfl (by decide)) g_b16
                  have g_b1 := g_b1_
                  have g_b2 := g_b2_
                  have g_b3 := g_b3_
                  have g_b4 := g_b4_
                  have g_b5 := g_b5_
                  have g_b6 := g_b6_
                  have g_b7 := g_b7_
                  have g_b8 := g_b8_
                  have g_b9 := g_b9_
                  have g_b10 := g_b10_
                  have g_b11 := g_b11_
                  have g_b12 := g_b12_
                  have g_b13 := g_b13_
                  have g_b14 := g_b14_
                  have g_b15 := g_b15_
                  have g_b16 := g_b16_
                  have g_y : M26 y = some (mO 8 [.ref b1, .ref b2, .ref b3, .ref b4, .ref b5, .int (nI nn), .ref b6, .ref b7, .ref b8, .ref b9, .ref b10, .ref b11, .int (nI nf), .ref b12, .ref b13, .int bd, .int (if (-8 : Int32) < 0 then (-8 : Int32) else 0), .int fa, .ref b14, .ref b15, .ref b16]) := by rw [eM26]; exact mUp_self _ _ _
                  have hk : kept (nol y b1 b2 b3 b4 b5 b6 b7 b8 b9 b10 b11 b12 b13 b14 b15 b16) M M26 := (by rw [eM26]; exact hk.up (nol_in 0 rfl))
                  rw [if_pos (show (-8 : Int32) < 0 by decide)] at g_y
                  exact m_iret hx hb hr hlocks hM hS (Nat.le_refl _) (Nat.le_refl _) dX10_play_159 (by refine ⟨(by show _ = (if vPl nn nf (nI j) wy f0 b then (if plF bk rw bd b wy fr n = 0 then _ else plF bk rw bd b wy fr n) else -1); rw [if_pos hvp, hpf]; rfl), ?_, hk⟩; show mR E _ y b1 b2 b3 b4 b5 b6 b7 b8 b9 b10 b11 b12 b13 b14 b15 b16 (if vPl nn nf (nI j) wy f0 b then (if plF bk rw bd b wy fr n = 0 then _ else (nn, ins, nf, fn, bk, rw, bd, plF bk rw bd b wy fr n, c2, c3 + 1, c4)) else _); rw [if_pos hvp, hpf]; rw [if_neg (by decide)]; exact ⟨_, _, _, _, _, _, _, _, _, _, _, _, _, _, _, _, _, ⟨g_y, g_b1, g_b2, g_b3, g_b4, g_b5, g_b6, g_b7, g_b8, g_b9, g_b10, g_b11, g_b12, g_b13, g_b14, g_b15, g_b16⟩, hB, hT, hR, hN, hF, (by show upd CT 1 (c3 + 1) 0 = c2; rw [upd_o (by decide)]; exact hc2), upd_s, (by show upd CT 1 (c3 + 1) 2 = c4; rw [upd_o (by decide)]; exact hc4)⟩)
              · skip
                have hpf : plF bk rw bd b wy fr n = -6 := hpw.trans (sI_6 c_74 (fun z => c_88 z.symm))
                refine lv_bipush (v := -6) hx hb dX10_play_91 (by decide) ?_
                refine lv_goto (tgt := 136) hx hb dX10_play_93 (by decide) ?_
                refine lv_istore (lv' := [(8, .int (-6)), (7, .int (nI w)), (0, .ref y), (1, .int (nI j)), (2, .int wy), (3, .int f0), (4, .int b), (5, .int fr), (6, .int n)]) hx hb dX10_play_136 hl (by decide) rfl (fun ls hl => ?_)
                refine lv_iload hx hb dX10_play_138 (lv_at hl 0 rfl) ?_
                refine lv_if_eq (tgt := 160) hx hb dX10_play_140 (by decide) (fun h9 => False.elim (by revert h9; exact (fun h => absurd h (by decide)))) (fun _ => ?_)
                refine lv_aload_n hx hb dX10_play_143 rfl (lv_at hl 2 rfl) ?_
                refine m_get (ci := 8) (v := .ref b14) (C := RX10) (T := TX10) (N := 21) hx hb hts in_X10_play_X10 hown hE hM g_y rfl 18 (by decide) (hts (.fieldLink RX10 52 "CallWays2Model" "counts" "[I") (by decide +kernel)) (fun _ h9 => h9) rfl dX10_play_144 ?_
                refine lv_iconst (v := 1) hx hb dX10_play_147 (by decide) ?_
                refine lv_dup2_11 hx hb dX10_play_148 rfl rfl ?_
                refine m_iald hx hb hE hM g_b14 in3_1 dX10_play_149 ?_
                rw [show CT (1 : Int32).toNatClampNeg = c3 from by show CT 1 = c3; exact hc3]
                refine lv_iconst (v := 1) hx hb dX10_play_150 (by decide) ?_
                refine lv_iadd hx hb dX10_play_151 ?_
                refine m_iast hx hb hE hM hS g_b14 in3_1 dX10_play_152 (fun H locs hM hS => ?_)
                rw [show upd CT (1 : Int32).toNatClampNeg (c3 + 1) = upd CT 1 (c3 + 1) from rfl] at hM
                have hM : mOK E.1 (mA M sz) (mUp M b14 (mI E 3 (upd CT 1 (c3 + 1)))) H := hM
                obtain ⟨M27, eM27⟩ : ∃ z, z = mUp M b14 (mI E 3 (upd CT 1 (c3 + 1))) := ⟨_, rfl⟩
                rw [← eM27] at hM
                have g_y_ : M27 y = some (mO 8 [.ref b1, .ref b2, .ref b3, .ref b4, .ref b5, .int (nI nn), .ref b6, .ref b7, .ref b8, .ref b9, .ref b10, .ref b11, .int (nI nf), .ref b12, .ref b13, .int bd, .int st, .int fa, .ref b14, .ref b15, .ref b16]) := by rw [eM27]; exact mUp_at (nd_ne hnd 0 14 rfl rfl (by decide)) g_y
                have g_b1_ : M27 b1 = some (mI E 10 B) := by rw [eM27]; exact mUp_at (nd_ne hnd 1 14 rfl rfl (by decide)) g_b1
                have g_b2_ : M27 b2 = some (mI E 12 T) := by rw [eM27]; exact mUp_at (nd_ne hnd 2 14 rfl rfl (by decide)) g_b2
                have g_b3_ : M27 b3 = some (mI E 24 LN) := by rw [eM27]; exact mUp_at (nd_ne hnd 3 14 rfl rfl (by decide)) g_b3
                have g_b4_ : M27 b4 = some (mI E 24 SZ) := by rw [eM27]; exact mUp_at (nd_ne hnd 4 14 rfl rfl (by decide)) g_b4
                have g_b5_ : M27 b5 = some (mJ E 960 SM) := by rw [eM27]; exact mUp_at (nd_ne hnd 5 14 rfl rfl (by decide)) g_b5
                have g_b6_ : M27 b6 = some (mI E 12 SO) := by rw [eM27]; exact mUp_at (nd_ne hnd 6 14 rfl rfl (by decide)) g_b6
                have g_b7_ : M27 b7 = some (mI E 48 KN) := by rw [eM27]; exact mUp_at (nd_ne hnd 7 14 rfl rfl (by decide)) g_b7
                have g_b8_ : M27 b8 = some (mI E 12 PI) := by rw [eM27]; exact mUp_at (nd_ne hnd 8 14 rfl rfl (by decide)) g_b8
                have g_b9_ : M27 b9 = some (mZ E 12 ON) := by rw [eM27]; exact mUp_at (nd_ne hnd 9 14 rfl rfl (by decide)) g_b9
                have g_b10_ : M27 b10 = some (mI E 12 PH) := by rw [eM27]; exact mUp_at (nd_ne hnd 10 14 rfl rfl (by decide)) g_b10
                have g_b11_ : M27 b11 = some (mDb E 12 LE) := by rw [eM27]; exact mUp_at (nd_ne hnd 11 14 rfl rfl (by decide)) g_b11
                have g_b12_ : M27 b12 = some (mI E 8 KD) := by rw [eM27]; exact mUp_at (nd_ne hnd 12 14 rfl rfl (by decide)) g_b12
                have g_b13_ : M27 b13 = some (mI E 8 NM) := by rw [eM27]; exact mUp_at (nd_ne hnd 13 14 rfl rfl (by decide)) g_b13
                have g_b15_ : M27 b15 = some (mDb E 40 CM) := by rw [eM27]; exact mUp_at (nd_ne hnd 15 14 rfl rfl (by decide)) g_b15
                have g_b16_ : M27 b16 = some (mJ E 40 MV) := by rw [eM27]; exact mUp_at (nd_ne hnd 16 14 rfl rfl (by decide)) g_b16
                have g_y := g_y_
                have g_b1 := g_b1_
                have g_b2 := g_b2_
                have g_b3 := g_b3_
                have g_b4 := g_b4_
                have g_b5 := g_b5_
                have g_b6 := g_b6_
                have g_b7 := g_b7_
                have g_b8 := g_b8_
                have g_b9 := g_b9_
                have g_b10 := g_b10_
                have g_b11 := g_b11_
                have g_b12 := g_b12_
                have g_b13 := g_b13_
                have g_b15 := g_b15_
                have g_b16 := g_b16_
                have g_b14 : M27 b14 = some (mI E 3 (upd CT 1 (c3 + 1))) := by rw [eM27]; exact mUp_self _ _ _
                have hk : kept (nol y b1 b2 b3 b4 b5 b6 b7 b8 b9 b10 b11 b12 b13 b14 b15 b16) M M27 := (by rw [eM27]; exact hk.up (nol_in 14 rfl))
                refine lv_aload_n hx hb dX10_play_153 rfl (lv_at hl 2 rfl) ?_
                refine lv_iload hx hb dX10_play_154 (lv_at hl 0 rfl) ?_
                refine m_calli (va_runV (As := [.int (-6 : Int32)]) (rest := []) ⟨hx, hb, hml, hown, hts⟩ (c_X10_says l E M27 H.size y b1 b2 b3 b4 b5 b6 b7 b8 b9 b10 b11 b12 b13 b14 b15 b16 (nI nn) (nI nf) bd st fa (-6 : Int32) g_y) (cwV 1 hts gX10_play_X10_says rfl rfl rfl (by decide +kernel) ⟨Nat.le_of_ble_eq_true rfl, Nat.le_of_ble_eq_true rfl⟩) (m_preV hE hM g_y rfl) rfl rfl hl.1 rfl (lv_room (Nat.le_of_ble_eq_true rfl)) dX10_play_156 ⟨Nat.le_of_ble_eq_true rfl, Nat.le_of_ble_eq_true rfl⟩) hM hS hA (fun r2 M28 H locs hw hM hS => ?_)
                obtain ⟨e_r2, eM28⟩ := hw
                subst e_r2
                have g_b1_ : M28 b1 = some (mI E 10 B) := by rw [eM28]; exact mUp_at (nd_ne hnd 1 0 rfl rfl (by decide)) g_b1
                have g_b2_ : M28 b2 = some (mI E 12 T) := by rw [eM28]; exact mUp_at (nd_ne hnd 2 0 rfl rfl (by decide)) g_b2
                have g_b3_ : M28 b3 = some (mI E 24 LN) := by rw [eM28]; exact mUp_at (nd_ne hnd 3 0 rfl rfl (by decide)) g_b3
                have g_b4_ : M28 b4 = some (mI E 24 SZ) := by rw [eM28]; exact mUp_at (nd_ne hnd 4 0 rfl rfl (by decide)) g_b4
                have g_b5_ : M28 b5 = some (mJ E 960 SM) := by rw [eM28]; exact mUp_at (nd_ne hnd 5 0 rfl rfl (by decide)) g_b5
                have g_b6_ : M28 b6 = some (mI E 12 SO) := by rw [eM28]; exact mUp_at (nd_ne hnd 6 0 rfl rfl (by decide)) g_b6
                have g_b7_ : M28 b7 = some (mI E 48 KN) := by rw [eM28]; exact mUp_at (nd_ne hnd 7 0 rfl rfl (by decide)) g_b7
                have g_b8_ : M28 b8 = some (mI E 12 PI) := by rw [eM28]; exact mUp_at (nd_ne hnd 8 0 rfl rfl (by decide)) g_b8
                have g_b9_ : M28 b9 = some (mZ E 12 ON) := by rw [eM28]; exact mUp_at (nd_ne hnd 9 0 rfl rfl (by decide)) g_b9
                have g_b10_ : M28 b10 = some (mI E 12 PH) := by rw [eM28]; exact mUp_at (nd_ne hnd 10 0 rfl rfl (by decide)) g_b10
                have g_b11_ : M28 b11 = some (mDb E 12 LE) := by rw [eM28]; exact mUp_at (nd_ne hnd 11 0 rfl rfl (by decide)) g_b11
                have g_b12_ : M28 b12 = some (mI E 8 KD) := by rw [eM28]; exact mUp_at (nd_ne hnd 12 0 rfl rfl (by decide)) g_b12
                have g_b13_ : M28 b13 = some (mI E 8 NM) := by rw [eM28]; exact mUp_at (nd_ne hnd 13 0 rfl rfl (by decide)) g_b13
                have g_b14_ : M28 b14 = some (mI E 3 (upd CT 1 (c3 + 1))) := by rw [eM28]; exact mUp_at (nd_ne hnd 14 0 rfl rfl (by decide)) g_b14
                have g_b15_ : M28 b15 = some (mDb E 40 CM) := by rw [eM28]; exact mUp_at (nd_ne hnd 15 0 rfl rfl (by decide)) g_b15
                have g_b16_ : M28 b16 = some (mJ E 40 MV) := by rw [eM28]; exact mUp_at (nd_ne hnd 16 0 rfl rfl (by decide)) g_b16
                have g_b1 := g_b1_
                have g_b2 := g_b2_
                have g_b3 := g_b3_
                have g_b4 := g_b4_
                have g_b5 := g_b5_
                have g_b6 := g_b6_
                have g_b7 := g_b7_
                have g_b8 := g_b8_
                have g_b9 := g_b9_
                have g_b10 := g_b10_
                have g_b11 := g_b11_
                have g_b12 := g_b12_
                have g_b13 := g_b13_
                have g_b14 := g_b14_
                have g_b15 := g_b15_
                have g_b16 := g_b16_
                have g_y : M28 y = some (mO 8 [.ref b1, .ref b2, .ref b3, .ref b4, .ref b5, .int (nI nn), .ref b6, .ref b7, .ref b8, .ref b9, .ref b10, .ref b11, .int (nI nf), .ref b12, .ref b13, .int bd, .int (if (-6 : Int32) < 0 then (-6 : Int32) else 0), .int fa, .ref b14, .ref b15, .ref b16]) := by rw [eM28]; exact mUp_self _ _ _
                have hk : kept (nol y b1 b2 b3 b4 b5 b6 b7 b8 b9 b10 b11 b12 b13 b14 b15 b16) M M28 := (by rw [eM28]; exact hk.up (nol_in 0 rfl))
                rw [if_pos (show (-6 : Int32) < 0 by decide)] at g_y
                exact m_iret hx hb hr hlocks hM hS (Nat.le_refl _) (Nat.le_refl _) dX10_play_159 (by refine ⟨(by show _ = (if vPl nn nf (nI j) wy f0 b then (if plF bk rw bd b wy fr n = 0 then _ else plF bk rw bd b wy fr n) else -1); rw [if_pos hvp, hpf]; rfl), ?_, hk⟩; show mR E _ y b1 b2 b3 b4 b5 b6 b7 b8 b9 b10 b11 b12 b13 b14 b15 b16 (if vPl nn nf (nI j) wy f0 b then (if plF bk rw bd b wy fr n = 0 then _ else (nn, ins, nf, fn, bk, rw, bd, plF bk rw bd b wy fr n, c2, c3 + 1, c4)) else _); rw [if_pos hvp, hpf]; rw [if_neg (by decide)]; exact ⟨_, _, _, _, _, _, _, _, _, _, _, _, _, _, _, _, _, ⟨g_y, g_b1, g_b2, g_b3, g_b4, g_b5, g_b6, g_b7, g_b8, g_b9, g_b10, g_b11, g_b12, g_b13, g_b14, g_b15, g_b16⟩, hB, hT, hR, hN, hF, (by show upd CT 1 (c3 + 1) 0 = c2; rw [upd_o (by decide)]; exact hc2), upd_s, (by show upd CT 1 (c3 + 1) 2 = c4; rw [upd_o (by decide)]; exact hc4)⟩)
        · skip
          have hw2 : wy = 2 := c_30
          refine lv_iload_n hx hb dX10_play_33 rfl (lv_at hl 3 rfl) ?_
          refine lv_iconst (v := 0) hx hb dX10_play_34 (by decide) ?_
          refine lv_aload_n hx hb dX10_play_35 rfl (lv_at hl 0 rfl) ?_
          refine m_get (ci := 8) (v := .int (nI nf)) (C := RX10) (T := TX10) (N := 21) hx hb hts in_X10_play_X10 hown hE hM g_y rfl 12 (by decide) (hts (.fieldLink RX10 109 "CallWays2Model" "functions" "I") (by decide +kernel)) (fun _ h9 => h9) rfl dX10_play_36 ?_
          refine lv_iconst (v := 1) hx hb dX10_play_39 (by decide) ?_
          refine lv_isub hx hb dX10_play_40 ?_
          refine m_calli (va_runS (As := [.int f0, .int 0, .int ((nI nf) - 1)]) (rest := []) ⟨hx, hb, hml, hown, hts⟩ (c_X10_in l E M H.size f0 0 (nI nf - 1)) (va_cwS 3 hts gX10_play_X10_in rfl rfl rfl (by decide +kernel) ⟨Nat.le_of_ble_eq_true rfl, Nat.le_of_ble_eq_true rfl⟩) (m_preS hE hM) rfl rfl hl.1 rfl (lv_room (Nat.le_of_ble_eq_true rfl)) dX10_play_41 ⟨Nat.le_of_ble_eq_true rfl, Nat.le_of_ble_eq_true rfl⟩) hM hS hA (fun r3 u H locs hw hM hS => ?_)
          obtain ⟨e_r3, eu⟩ := hw
          rw [eu] at hM
          rw [bI_congr (in_m1 (by omega))] at e_r3
          subst e_r3
          refine lv_if_ne (tgt := 53) hx hb dX10_play_44 (by decide) (fun c_44 => ?_) (fun c_44 => ?_)
          · skip
            rw [bI_ne] at c_44
            have hvp : vPl nn nf i wy f0 b := ⟨c5, Or.inr (Or.inr ⟨hw2, c_44⟩), c_25⟩
            obtain ⟨q, hq, hqq, hqc⟩ := vI_ix c_44 (by omega)
            subst hqq
            rw [bI_ne] at c_5
            obtain ⟨j, hj, hij, hjc⟩ := vI_ix c_5 hnn
            subst hij
            rcases hins : ins j with ⟨ci, kf, pi, on, ph, le, tb⟩
            obtain ⟨hSo, hKn, hPi, hOn, hPh, hLe⟩ := hN j (by omega) _ _ _ _ _ _ _ hins
            obtain ⟨hci, hle, hon⟩ := hvI j hj _ _ _ _ _ _ _ hins
            have htbj : tbs ins j = tb := (by show (ins j).2.2.2.2.2.2 = tb; rw [hins])
            have hTb := mTb_of hv24 hvR hR hj (tb := tb) (by rw [hins])
            have hto := tbOK_of hvR hj (tb := tb) (by rw [hins])
            have hgv : gvAt ins rw j = sGive ci kf pi on ph le (tb.map rw) := (by unfold gvAt; rw [hins])
            refine lv_aload_n hx hb dX10_play_53 rfl (lv_at hl 0 rfl) ?_
            refine m_get (ci := 8) (v := .ref b1) (C := RX10) (T := TX10) (N := 21) hx hb hts in_X10_play_X10 hown hE hM g_y rfl 0 (by decide) (hts (.fieldLink RX10 7 "CallWays2Model" "blocks" "[I") (by decide +kernel)) (fun _ h9 => h9) rfl dX10_play_54 ?_
            refine lv_iload hx hb dX10_play_57 (lv_at hl 4 rfl) ?_
            refine m_iald hx hb hE hM g_b1 hbin dX10_play_59 ?_
            rw [show B b.toNatClampNeg = rI (bk jb) from by rw [hjbc]; exact hB jb hjb]
            refine lv_istore (lv' := [(7, .int (rI (bk jb))), (0, .ref y), (1, .int (nI j)), (2, .int wy), (3, .int (nI q)), (4, .int b), (5, .int fr), (6, .int n)]) hx hb dX10_play_60 hl (by decide) rfl (fun ls hl => ?_)
            refine lv_iload hx hb dX10_play_62 (lv_at hl 0 rfl) ?_
            rcases hbk : bk jb with _ | w
            · refine lv_if_ge (tgt := 72) hx hb dX10_play_64 (by decide) (fun h9 => absurd h9 (by decide)) (fun _ => ?_)
              rw [hbk] at hl
              replace hl : lv_has ls 10 [(7, .int (-1)), (0, .ref y), (1, .int (nI j)), (2, .int wy), (3, .int (nI q)), (4, .int b), (5, .int fr), (6, .int n)] := hl
              have hpf : plF bk rw bd b wy fr n = -5 := plF_n hjbc hbk
              refine lv_bipush (v := -5) hx hb dX10_play_67 (by decide) ?_
              refine lv_goto (tgt := 136) hx hb dX10_play_69 (by decide) ?_
              refine lv_istore (lv' := [(8, .int (-5)), (7, .int (-1)), (0, .ref y), (1, .int (nI j)), (2, .int wy), (3, .int (nI q)), (4, .int b), (5, .int fr), (6, .int n)]) hx hb dX10_play_136 hl (by decide) rfl (fun ls hl => ?_)
              refine lv_iload hx hb dX10_play_138 (lv_at hl 0 rfl) ?_
              refine lv_if_eq (tgt := 160) hx hb dX10_play_140 (by decide) (fun h9 => False.elim (by revert h9; exact (fun h => absurd h (by decide)))) (fun _ => ?_)
              refine lv_aload_n hx hb dX10_play_143 rfl (lv_at hl 2 rfl) ?_
              refine m_get (ci := 8) (v := .ref b14) (C := RX10) (T := TX10) (N := 21) hx hb hts in_X10_play_X10 hown hE hM g_y rfl 18 (by decide) (hts (.fieldLink RX10 52 "CallWays2Model" "counts" "[I") (by decide +kernel)) (fun _ h9 => h9) rfl dX10_play_144 ?_
              refine lv_iconst (v := 1) hx hb dX10_play_147 (by decide) ?_
              refine lv_dup2_11 hx hb dX10_play_148 rfl rfl ?_
              refine m_iald hx hb hE hM g_b14 in3_1 dX10_play_149 ?_
              rw [show CT (1 : Int32).toNatClampNeg = c3 from by show CT 1 = c3; exact hc3]
              refine lv_iconst (v := 1) hx hb dX10_play_150 (by decide) ?_
              refine lv_iadd hx hb dX10_play_151 ?_
              refine m_iast hx hb hE hM hS g_b14 in3_1 dX10_play_152 (fun H locs hM hS => ?_)
              rw [show upd CT (1 : Int32).toNatClampNeg (c3 + 1) = upd CT 1 (c3 + 1) from rfl] at hM
              have hM : mOK E.1 (mA M sz) (mUp M b14 (mI E 3 (upd CT 1 (c3 + 1)))) H := hM
              obtain ⟨M29, eM29⟩ : ∃ z, z = mUp M b14 (mI E 3 (upd CT 1 (c3 + 1))) := ⟨_, rfl⟩
              rw [← eM29] at hM
              have g_y_ : M29 y = some (mO 8 [.ref b1, .ref b2, .ref b3, .ref b4, .ref b5, .int (nI nn), .ref b6, .ref b7, .ref b8, .ref b9, .ref b10, .ref b11, .int (nI nf), .ref b12, .ref b13, .int bd, .int st, .int fa, .ref b14, .ref b15, .ref b16]) := by rw [eM29]; exact mUp_at (nd_ne hnd 0 14 rfl rfl (by decide)) g_y
              have g_b1_ : M29 b1 = some (mI E 10 B) := by rw [eM29]; exact mUp_at (nd_ne hnd 1 14 rfl rfl (by decide)) g_b1
              have g_b2_ : M29 b2 = some (mI E 12 T) := by rw [eM29]; exact mUp_at (nd_ne hnd 2 14 rfl rfl (by decide)) g_b2
              have g_b3_ : M29 b3 = some (mI E 24 LN) := by rw [eM29]; exact mUp_at (nd_ne hnd 3 14 rfl rfl (by decide)) g_b3
              have g_b4_ : M29 b4 = some (mI E 24 SZ) := by rw [eM29]; exact mUp_at (nd_ne hnd 4 14 rfl rfl (by decide)) g_b4
              have g_b5_ : M29 b5 = some (mJ E 960 SM) := by rw [eM29]; exact mUp_at (nd_ne hnd 5 14 rfl rfl (by decide)) g_b5
              have g_b6_ : M29 b6 = some (mI E 12 SO) := by rw [eM29]; exact mUp_at (nd_ne hnd 6 14 rfl rfl (by decide)) g_b6
              have g_b7_ : M29 b7 = some (mI E 48 KN) := by rw [eM29]; exact mUp_at (nd_ne hnd 7 14 rfl rfl (by decide)) g_b7
              have g_b8_ : M29 b8 = some (mI E 12 PI) := by rw [eM29]; exact mUp_at (nd_ne hnd 8 14 rfl rfl (by decide)) g_b8
              have g_b9_ : M29 b9 = some (mZ E 12 ON) := by rw [eM29]; exact mUp_at (nd_ne hnd 9 14 rfl rfl (by decide)) g_b9
              have g_b10_ : M29 b10 = some (mI E 12 PH) := by rw [eM29]; exact mUp_at (nd_ne hnd 10 14 rfl rfl (by decide)) g_b10
              have g_b11_ : M29 b11 = some (mDb E 12 LE) := by rw [eM29]; exact mUp_at (nd_ne hnd 11 14 rfl rfl (by decide)) g_b11
              have g_b12_ : M29 b12 = some (mI E 8 KD) := by rw [eM29]; exact mUp_at (nd_ne hnd 12 14 rfl rfl (by decide)) g_b12
              have g_b13_ : M29 b13 = some (mI E 8 NM) := by rw [eM29]; exact mUp_at (nd_ne hnd 13 14 rfl rfl (by decide)) g_b13
              have g_b15_ : M29 b15 = some (mDb E 40 CM) := by rw [eM29]; exact mUp_at (nd_ne hnd 15 14 rfl rfl (by decide)) g_b15
              have g_b16_ : M29 b16 = some (mJ E 40 MV) := by rw [eM29]; exact mUp_at (nd_ne hnd 16 14 rfl rfl (by decide)) g_b16
              have g_y := g_y_
              have g_b1 := g_b1_
              have g_b2 := g_b2_
              have g_b3 := g_b3_
              have g_b4 := g_b4_
              have g_b5 := g_b5_
              have g_b6 := g_b6_
              have g_b7 := g_b7_
              have g_b8 := g_b8_
              have g_b9 := g_b9_
              have g_b10 := g_b10_
              have g_b11 := g_b11_
              have g_b12 := g_b12_
              have g_b13 := g_b13_
              have g_b15 := g_b15_
              have g_b16 := g_b16_
              have g_b14 : M29 b14 = some (mI E 3 (upd CT 1 (c3 + 1))) := by rw [eM29]; exact mUp_self _ _ _
              have hk : kept (nol y b1 b2 b3 b4 b5 b6 b7 b8 b9 b10 b11 b12 b13 b14 b15 b16) M M29 := (by rw [eM29]; exact hk.up (nol_in 14 rfl))
              refine lv_aload_n hx hb dX10_play_153 rfl (lv_at hl 2 rfl) ?_
              refine lv_iload hx hb dX10_play_154 (lv_at hl 0 rfl) ?_
              refine m_calli (va_runV (As := [.int (-5 : Int32)]) (rest := []) ⟨hx, hb, hml, hown, hts⟩ (c_X10_says l E M29 H.size y b1 b2 b3 b4 b5 b6 b7 b8 b9 b10 b11 b12 b13 b14 b15 b16 (nI nn) (nI nf) bd st fa (-5 : Int32) g_y) (cwV 1 hts gX10_play_X10_says rfl rfl rfl (by decide +kernel) ⟨Nat.le_of_ble_eq_true rfl, Nat.le_of_ble_eq_true rfl⟩) (m_preV hE hM g_y rfl) rfl rfl hl.1 rfl (lv_room (Nat.le_of_ble_eq_true rfl)) dX10_play_156 ⟨Nat.le_of_ble_eq_true rfl, Nat.le_of_ble_eq_true rfl⟩) hM hS hA (fun r2 M30 H locs hw hM hS => ?_)
              obtain ⟨e_r2, eM30⟩ := hw
              subst e_r2
              have g_b1_ : M30 b1 = some (mI E 10 B) := by rw [eM30]; exact mUp_at (nd_ne hnd 1 0 rfl rfl (by decide)) g_b1
              have g_b2_ : M30 b2 = some (mI E 12 T) := by rw [eM30]; exact mUp_at (nd_ne hnd 2 0 rfl rfl (by decide)) g_b2
              have g_b3_ : M30 b3 = some (mI E 24 LN) := by rw [eM30]; exact mUp_at (nd_ne hnd 3 0 rfl rfl (by decide)) g_b3
              have g_b4_ : M30 b4 = some (mI E 24 SZ) := by rw [eM30]; exact mUp_at (nd_ne hnd 4 0 rfl rfl (by decide)) g_b4
              have g_b5_ : M30 b5 = some (mJ E 960 SM) := by rw [eM30]; exact mUp_at (nd_ne hnd 5 0 rfl rfl (by decide)) g_b5
              have g_b6_ : M30 b6 = some (mI E 12 SO) := by rw [eM30]; exact mUp_at (nd_ne hnd 6 0 rfl rfl (by decide)) g_b6
              have g_b7_ : M30 b7 = some (mI E 48 KN) := by rw [eM30]; exact mUp_at (nd_ne hnd 7 0 rfl rfl (by decide)) g_b7
              have g_b8_ : M30 b8 = some (mI E 12 PI) := by rw [eM30]; exact mUp_at (nd_ne hnd 8 0 rfl rfl (by decide)) g_b8
              have g_b9_ : M30 b9 = some (mZ E 12 ON) := by rw [eM30]; exact mUp_at (nd_ne hnd 9 0 rfl rfl (by decide)) g_b9
              have g_b10_ : M30 b10 = some (mI E 12 PH) := by rw [eM30]; exact mUp_at (nd_ne hnd 10 0 rfl rfl (by decide)) g_b10
              have g_b11_ : M30 b11 = some (mDb E 12 LE) := by rw [eM30]; exact mUp_at (nd_ne hnd 11 0 rfl rfl (by decide)) g_b11
              have g_b12_ : M30 b12 = some (mI E 8 KD) := by rw [eM30]; exact mUp_at (nd_ne hnd 12 0 rfl rfl (by decide)) g_b12
              have g_b13_ : M30 b13 = some (mI E 8 NM) := by rw [eM30]; exact mUp_at (nd_ne hnd 13 0 rfl rfl (by decide)) g_b13
              have g_b14_ : M30 b14 = some (mI E 3 (upd CT 1 (c3 + 1))) := by rw [eM30]; exact mUp_at (nd_ne hnd 14 0 rfl rfl (by decide)) g_b14
              have g_b15_ : M30 b15 = some (mDb E 40 CM) := by rw [eM30]; exact mUp_at (nd_ne hnd 15 0 rfl rfl (by decide)) g_b15
              have g_b16_ : M30 b16 = some (mJ E 40 MV) := by rw [eM30]; exact mUp_at (nd_ne hnd 16 0 rfl rfl (by decide)) g_b16
              have g_b1 := g_b1_
              have g_b2 := g_b2_
              have g_b3 := g_b3_
              have g_b4 := g_b4_
              have g_b5 := g_b5_
              have g_b6 := g_b6_
              have g_b7 := g_b7_
              have g_b8 := g_b8_
              have g_b9 := g_b9_
              have g_b10 := g_b10_
              have g_b11 := g_b11_
              have g_b12 := g_b12_
              have g_b13 := g_b13_
              have g_b14 := g_b14_
              have g_b15 := g_b15_
              have g_b16 := g_b16_
              have g_y : M30 y = some (mO 8 [.ref b1, .ref b2, .ref b3, .ref b4, .ref b5, .int (nI nn), .ref b6, .ref b7, .ref b8, .ref b9, .ref b10, .ref b11, .int (nI nf), .ref b12, .ref b13, .int bd, .int (if (-5 : Int32) < 0 then (-5 : Int32) else 0), .int fa, .ref b14, .ref b15, .ref b16]) := by rw [eM30]; exact mUp_self _ _ _
              have hk : kept (nol y b1 b2 b3 b4 b5 b6 b7 b8 b9 b10 b11 b12 b13 b14 b15 b16) M M30 := (by rw [eM30]; exact hk.up (nol_in 0 rfl))
              rw [if_pos (show (-5 : Int32) < 0 by decide)] at g_y
              exact m_iret hx hb hr hlocks hM hS (Nat.le_refl _) (Nat.le_refl _) dX10_play_159 (by refine ⟨(by show _ = (if vPl nn nf (nI j) wy (nI q) b then (if plF bk rw bd b wy fr n = 0 then _ else plF bk rw bd b wy fr n) else -1); rw [if_pos hvp, hpf]; rfl), ?_, hk⟩; show mR E _ y b1 b2 b3 b4 b5 b6 b7 b8 b9 b10 b11 b12 b13 b14 b15 b16 (if vPl nn nf (nI j) wy (nI q) b then (if plF bk rw bd b wy fr n = 0 then _ else (nn, ins, nf, fn, bk, rw, bd, plF bk rw bd b wy fr n, c2, c3 + 1, c4)) else _); rw [if_pos hvp, hpf]; rw [if_neg (by decide)]; exact ⟨_, _, _, _, _, _, _, _, _, _, _, _, _, _, _, _, _, ⟨g_y, g_b1, g_b2, g_b3, g_b4, g_b5, g_b6, g_b7, g_b8, g_b9, g_b10, g_b11, g_b12, g_b13, g_b14, g_b15, g_b16⟩, hB, hT, hR, hN, hF, (by show upd CT 1 (c3 + 1) 0 = c2; rw [upd_o (by decide)]; exact hc2), upd_s, (by show upd CT 1 (c3 + 1) 2 = c4; rw [upd_o (by decide)]; exact hc4)⟩)
            · skip
              have hlv : live nn ins bk w := Or.inl ⟨jb, hjb, hbk⟩
              rcases hrw : rw w with ⟨lane, n0, f0w⟩
              obtain ⟨hLn, hSz, hSm⟩ := hR w hlv _ _ _ hrw
              have hw24 := hv24 w hlv
              obtain ⟨hn40, hlane, hvo⟩ := hvR w hlv _ _ _ hrw
              refine lv_if_ge (tgt := 72) hx hb dX10_play_64 (by decide) (fun _ => ?_) (fun h9 => absurd ((nI_leI (a := 0) (by decide) (by omega)).mpr (Nat.zero_le w)) h9)
              rw [hbk] at hl
              replace hl : lv_has ls 10 [(7, .int (nI w)), (0, .ref y), (1, .int (nI j)), (2, .int wy), (3, .int (nI q)), (4, .int b), (5, .int fr), (6, .int n)] := hl
              have hpw : plF bk rw bd b wy fr n = sInto lane n0 bd wy fr n := (by have := plF_w (bk := bk) (rw := rw) (bd := bd) (wy := wy) (fr := fr) (n := n) (w := w) (by rw [hjbc]; exact hbk); rw [hrw] at this; exact this)
              have core : plF bk rw bd b wy fr n = 0 → spn n0 fr n → ∀ (ls : Array Slot), lv_has ls 10 [(8, .int 0), (7, .int (nI w)), (0, .ref y), (1, .int (nI j)), (2, .int wy), (3, .int (nI q)), (4, .int b), (5, .int fr), (6, .int n)] → W p l e ({ frames := 4, cells := 0, slots := 0, locals := 97 } : Room) s m #[.ref y, .int (nI j), .int wy, .int (nI q), .int b, .int fr, .int n] below meth c H locs (0) (0) (MQ below (mQi E M sz (fun r u => r = aPlay (nn, ins, nf, fn, bk, rw, bd, st, c2, c3, c4) (nI j) wy (nI q) b fr n ∧ mR E u y b1 b2 b3 b4 b5 b6 b7 b8 b9 b10 b11 b12 b13 b14 b15 b16 (nPlay (nn, ins, nf, fn, bk, rw, bd, st, c2, c3, c4) (nI j) wy (nI q) b fr n) ∧ kept (nol y b1 b2 b3 b4 b5 b6 b7 b8 b9 b10 b11 b12 b13 b14 b15 b16) M u)) #[.ref y, .int (nI j), .int wy, .int (nI q), .int b, .int fr, .int n] s (0) (0) (mA M sz)) (F0 m 160 ls []) := by
                intro hpf hspn ls hl
                obtain ⟨a9, kn, efr, ekn, hak⟩ := spn_nat hn40 hspn
                subst efr
                subst ekn
                have hkc : (nI kn).toNatClampNeg = kn := nI_clamp (by omega)
                have hac : (nI a9).toNatClampNeg = a9 := nI_clamp (by omega)
                have hd5 : [y, b10, b11, b14, b15].Nodup := nd5 hnd
                obtain ⟨fu, efu⟩ : ∃ z, z = (plFu fn wy (nI q)) := ⟨_, rfl⟩
                have hgo0 : plGo ins rw fu j kn = sGo ci kf pi on (tb.map rw) ph le fu 0 kn := (by unfold plGo; rw [hins])
                have hst : ∀ k, dL (sSt ci kf pi on (tb.map rw) ph le k).2 := dL_st hle
                have efu2 : fu = some ((fn q).1, FP.i2d (fn q).2) := (by rw [efu]; unfold plFu; rw [if_pos hw2, hqc])
                have hfin : ∀ k, FP.Core.DFin (psO fu (sSm ci kf pi on (tb.map rw) ph le k).2.1) := fun k => (by rw [efu2]; exact (fin_pass (dB_i2d _) (dB_give (hst k) hto)).fin (by decide))
                have mid : ∀ (wh : Int32) (kk : Nat) (CM9 : Nat → UInt64) (fa9 : Int32) (Mi : mMem) (ls : Array Slot) (H : Heap) (locs : List Loc), sGo ci kf pi on (tb.map rw) ph le fu 0 kn = (wh, kk) → (wh = 0 ∨ wh < 0) → (wh = 0 → ∀ z, z < kn → CM9 z = psO fu (sSm ci kf pi on (tb.map rw) ph le z).2.1) → Mi = pen M y b10 b11 b14 b15 (mO 8 [.ref b1, .ref b2, .ref b3, .ref b4, .ref b5, .int (nI nn), .ref b6, .ref b7, .ref b8, .ref b9, .ref b10, .ref b11, .int (nI nf), .ref b12, .ref b13, .int bd, .int st, .int fa9, .ref b14, .ref b15, .ref b16]) (mI E 12 (upd PH j (sSt ci kf pi on (tb.map rw) ph le kk).1)) (mDb E 12 (sLE ci LE j (sSt ci kf pi on (tb.map rw) ph le kk).2)) (mI E 3 (upd CT 2 (c4 + nI kk))) (mDb E 40 CM9) → mOK E.1 (mA M sz) Mi H → va_S (mA M sz) s.heap H locs → lv_has ls 10 [(8, .int wh), (7, .int (nI w)), (0, .ref y), (1, .int (nI j)), (2, .int wy), (3, .int (nI q)), (4, .int b), (5, .int (nI a9)), (6, .int (nI kn))] → W p l e ({ frames := 4, cells := 0, slots := 0, locals := 97 } : Room) s m #[.ref y, .int (nI j), .int wy, .int (nI q), .int b, .int (nI a9), .int (nI kn)] below meth c H locs (0) (0) (MQ below (mQi E M sz (fun r u => r = aPlay (nn, ins, nf, fn, bk, rw, bd, st, c2, c3, c4) (nI j) wy (nI q) b (nI a9) (nI kn) ∧ mR E u y b1 b2 b3 b4 b5 b6 b7 b8 b9 b10 b11 b12 b13 b14 b15 b16 (nPlay (nn, ins, nf, fn, bk, rw, bd, st, c2, c3, c4) (nI j) wy (nI q) b (nI a9) (nI kn)) ∧ kept (nol y b1 b2 b3 b4 b5 b6 b7 b8 b9 b10 b11 b12 b13 b14 b15 b16) M u)) #[.ref y, .int (nI j), .int wy, .int (nI q), .int b, .int (nI a9), .int (nI kn)] s (0) (0) (mA M sz)) (F0 m 240 ls []) := by
                  intro wh kk CM9 fa9 M0 ls H locs hgo hwh hCM eM0 hM hS hl
                  have g_b1 : M0 b1 = some (mI E 10 B) := by rw [eM0]; exact pen_ne g0_b1 (nd_ne hnd 1 0 rfl rfl (by decide)) (nd_ne hnd 1 10 rfl rfl (by decide)) (nd_ne hnd 1 11 rfl rfl (by decide)) (nd_ne hnd 1 14 rfl rfl (by decide)) (nd_ne hnd 1 15 rfl rfl (by decide))
                  have g_b2 : M0 b2 = some (mI E 12 T) := by rw [eM0]; exact pen_ne g0_b2 (nd_ne hnd 2 0 rfl rfl (by decide)) (nd_ne hnd 2 10 rfl rfl (by decide)) (nd_ne hnd 2 11 rfl rfl (by decide)) (nd_ne hnd 2 14 rfl rfl (by decide)) (nd_ne hnd 2 15 rfl rfl (by decide))
                  have g_b3 : M0 b3 = some (mI E 24 LN) := by rw [eM0]; exact pen_ne g0_b3 (nd_ne hnd 3 0 rfl rfl (by decide)) (nd_ne hnd 3 10 rfl rfl (by decide)) (nd_ne hnd 3 11 rfl rfl (by decide)) (nd_ne hnd 3 14 rfl rfl (by decide)) (nd_ne hnd 3 15 rfl rfl (by decide))
                  have g_b4 : M0 b4 = some (mI E 24 SZ) := by rw [eM0]; exact pen_ne g0_b4 (nd_ne hnd 4 0 rfl rfl (by decide)) (nd_ne hnd 4 10 rfl rfl (by decide)) (nd_ne hnd 4 11 rfl rfl (by decide)) (nd_ne hnd 4 14 rfl rfl (by decide)) (nd_ne hnd 4 15 rfl rfl (by decide))
                  have g_b5 : M0 b5 = some (mJ E 960 SM) := by rw [eM0]; exact pen_ne g0_b5 (nd_ne hnd 5 0 rfl rfl (by decide)) (nd_ne hnd 5 10 rfl rfl (by decide)) (nd_ne hnd 5 11 rfl rfl (by decide)) (nd_ne hnd 5 14 rfl rfl (by decide)) (nd_ne hnd 5 15 rfl rfl (by decide))
                  have g_b6 : M0 b6 = some (mI E 12 SO) := by rw [eM0]; exact pen_ne g0_b6 (nd_ne hnd 6 0 rfl rfl (by decide)) (nd_ne hnd 6 10 rfl rfl (by decide)) (nd_ne hnd 6 11 rfl rfl (by decide)) (nd_ne hnd 6 14 rfl rfl (by decide)) (nd_ne hnd 6 15 rfl rfl (by decide))
                  have g_b7 : M0 b7 = some (mI E 48 KN) := by rw [eM0]; exact pen_ne g0_b7 (nd_ne hnd 7 0 rfl rfl (by decide)) (nd_ne hnd 7 10 rfl rfl (by decide)) (nd_ne hnd 7 11 rfl rfl (by decide)) (nd_ne hnd 7 14 rfl rfl (by decide)) (nd_ne hnd 7 15 rfl rfl (by decide))
                  have g_b8 : M0 b8 = some (mI E 12 PI) := by rw [eM0]; exact pen_ne g0_b8 (nd_ne hnd 8 0 rfl rfl (by decide)) (nd_ne hnd 8 10 rfl rfl (by decide)) (nd_ne hnd 8 11 rfl rfl (by decide)) (nd_ne hnd 8 14 rfl rfl (by decide)) (nd_ne hnd 8 15 rfl rfl (by decide))
                  have g_b9 : M0 b9 = some (mZ E 12 ON) := by rw [eM0]; exact pen_ne g0_b9 (nd_ne hnd 9 0 rfl rfl (by decide)) (nd_ne hnd 9 10 rfl rfl (by decide)) (nd_ne hnd 9 11 rfl rfl (by decide)) (nd_ne hnd 9 14 rfl rfl (by decide)) (nd_ne hnd 9 15 rfl rfl (by decide))
                  have g_b12 : M0 b12 = some (mI E 8 KD) := by rw [eM0]; exact pen_ne g0_b12 (nd_ne hnd 12 0 rfl rfl (by decide)) (nd_ne hnd 12 10 rfl rfl (by decide)) (nd_ne hnd 12 11 rfl rfl (by decide)) (nd_ne hnd 12 14 rfl rfl (by decide)) (nd_ne hnd 12 15 rfl rfl (by decide))
                  have g_b13 : M0 b13 = some (mI E 8 NM) := by rw [eM0]; exact pen_ne g0_b13 (nd_ne hnd 13 0 rfl rfl (by decide)) (nd_ne hnd 13 10 rfl rfl (by decide)) (nd_ne hnd 13 11 rfl rfl (by decide)) (nd_ne hnd 13 14 rfl rfl (by decide)) (nd_ne hnd 13 15 rfl rfl (by decide))
                  have g_b16 : M0 b16 = some (mJ E 40 MV) := by rw [eM0]; exact pen_ne g0_b16 (nd_ne hnd 16 0 rfl rfl (by decide)) (nd_ne hnd 16 10 rfl rfl (by decide)) (nd_ne hnd 16 11 rfl rfl (by decide)) (nd_ne hnd 16 14 rfl rfl (by decide)) (nd_ne hnd 16 15 rfl rfl (by decide))
                  have g_y : M0 y = some (mO 8 [.ref b1, .ref b2, .ref b3, .ref b4, .ref b5, .int (nI nn), .ref b6, .ref b7, .ref b8, .ref b9, .ref b10, .ref b11, .int (nI nf), .ref b12, .ref b13, .int bd, .int st, .int fa9, .ref b14, .ref b15, .ref b16]) := by rw [eM0]; exact mUp_at (nd_ne hnd 0 15 rfl rfl (by decide)) (mUp_at (nd_ne hnd 0 14 rfl rfl (by decide)) (tri_gp (nd_ne hnd 0 10 rfl rfl (by decide)) (nd_ne hnd 0 11 rfl rfl (by decide))))
                  have g_b10 : M0 b10 = some (mI E 12 (upd PH j (sSt ci kf pi on (tb.map rw) ph le kk).1)) := by rw [eM0]; exact mUp_at (nd_ne hnd 10 15 rfl rfl (by decide)) (mUp_at (nd_ne hnd 10 14 rfl rfl (by decide)) (tri_gx (nd_ne hnd 10 11 rfl rfl (by decide))))
                  have g_b11 : M0 b11 = some (mDb E 12 (sLE ci LE j (sSt ci kf pi on (tb.map rw) ph le kk).2)) := by rw [eM0]; exact mUp_at (nd_ne hnd 11 15 rfl rfl (by decide)) (mUp_at (nd_ne hnd 11 14 rfl rfl (by decide)) tri_ga)
                  have g_b14 : M0 b14 = some (mI E 3 (upd CT 2 (c4 + nI kk))) := by rw [eM0]; exact mUp_at (nd_ne hnd 14 15 rfl rfl (by decide)) (mUp_self _ _ _)
                  have g_b15 : M0 b15 = some (mDb E 40 CM9) := by rw [eM0]; exact mUp_self _ _ _
                  have hk : kept (nol y b1 b2 b3 b4 b5 b6 b7 b8 b9 b10 b11 b12 b13 b14 b15 b16) M M0 := (by rw [eM0]; exact ((kept.rf.tri (nol_in 0 rfl) (nol_in 10 rfl) (nol_in 11 rfl)).up (nol_in 14 rfl)).up (nol_in 15 rfl))
                  obtain hgo1 : plGo ins rw fu j kn = (wh, kk) := hgo0.trans hgo
                  have h0_y := g_y
                  have h0_b1 := g_b1
                  have h0_b2 := g_b2
                  have h0_b3 := g_b3
                  have h0_b4 := g_b4
                  have h0_b5 := g_b5
                  have h0_b6 := g_b6
                  have h0_b7 := g_b7
                  have h0_b8 := g_b8
                  have h0_b9 := g_b9
                  have h0_b10 := g_b10
                  have h0_b11 := g_b11
                  have h0_b12 := g_b12
                  have h0_b13 := g_b13
                  have h0_b14 := g_b14
                  have h0_b15 := g_b15
                  have h0_b16 := g_b16
                  have hk0 := hk
                  have loop2 : ∀ (n9 : Nat) (k9 : Nat) (Mi : mMem) (ls : Array Slot) (H : Heap) (locs : List Loc), k9 + n9 = kn → Mi = mUp M0 b5 (mJ E 960 (va_cpy (fun z => sBits lane ((fun z => sTurn lane (if wh = 0 then CM9 z else FP.dconst0)) z)) SM 0 (40 * w + a9) k9)) → mOK E.1 (mA M sz) Mi H → va_S (mA M sz) s.heap H locs → lv_has ls 10 [(9, .int (nI k9)), (8, .int wh), (7, .int (nI w)), (0, .ref y), (1, .int (nI j)), (2, .int wy), (3, .int (nI q)), (4, .int b), (5, .int (nI a9)), (6, .int (nI kn))] → W p l e ({ frames := 4, cells := 0, slots := 0, locals := 97 } : Room) s m #[.ref y, .int (nI j), .int wy, .int (nI q), .int b, .int (nI a9), .int (nI kn)] below meth c H locs (0) (0) (MQ below (mQi E M sz (fun r u => r = aPlay (nn, ins, nf, fn, bk, rw, bd, st, c2, c3, c4) (nI j) wy (nI q) b (nI a9) (nI kn) ∧ mR E u y b1 b2 b3 b4 b5 b6 b7 b8 b9 b10 b11 b12 b13 b14 b15 b16 (nPlay (nn, ins, nf, fn, bk, rw, bd, st, c2, c3, c4) (nI j) wy (nI q) b (nI a9) (nI kn)) ∧ kept (nol y b1 b2 b3 b4 b5 b6 b7 b8 b9 b10 b11 b12 b13 b14 b15 b16) M u)) #[.ref y, .int (nI j), .int wy, .int (nI q), .int b, .int (nI a9), .int (nI kn)] s (0) (0) (mA M sz)) (F0 m 243 ls []) := by
                    intro n9
                    induction n9 with
                    | zero =>
                      intro k9 Mi ls H locs hk9 eMi hM hS hl
                      have hh_y : Mi y = some (mO 8 [.ref b1, .ref b2, .ref b3, .ref b4, .ref b5, .int (nI nn), .ref b6, .ref b7, .ref b8, .ref b9, .ref b10, .ref b11, .int (nI nf), .ref b12, .ref b13, .int bd, .int st, .int fa9, .ref b14, .ref b15, .ref b16]) := by rw [eMi]; exact mUp_at (nd_ne hnd 0 5 rfl rfl (by decide)) h0_y
                      have hh_b1 : Mi b1 = some (mI E 10 B) := by rw [eMi]; exact mUp_at (nd_ne hnd 1 5 rfl rfl (by decide)) h0_b1
                      have hh_b2 : Mi b2 = some (mI E 12 T) := by rw [eMi]; exact mUp_at (nd_ne hnd 2 5 rfl rfl (by decide)) h0_b2
                      have hh_b3 : Mi b3 = some (mI E 24 LN) := by rw [eMi]; exact mUp_at (nd_ne hnd 3 5 rfl rfl (by decide)) h0_b3
                      have hh_b4 : Mi b4 = some (mI E 24 SZ) := by rw [eMi]; exact mUp_at (nd_ne hnd 4 5 rfl rfl (by decide)) h0_b4
                      have hh_b6 : Mi b6 = some (mI E 12 SO) := by rw [eMi]; exact mUp_at (nd_ne hnd 6 5 rfl rfl (by decide)) h0_b6
                      have hh_b7 : Mi b7 = some (mI E 48 KN) := by rw [eMi]; exact mUp_at (nd_ne hnd 7 5 rfl rfl (by decide)) h0_b7
                      have hh_b8 : Mi b8 = some (mI E 12 PI) := by rw [eMi]; exact mUp_at (nd_ne hnd 8 5 rfl rfl (by decide)) h0_b8
                      have hh_b9 : Mi b9 = some (mZ E 12 ON) := by rw [eMi]; exact mUp_at (nd_ne hnd 9 5 rfl rfl (by decide)) h0_b9
                      have hh_b10 : Mi b10 = some (mI E 12 (upd PH j (sSt ci kf pi on (tb.map rw) ph le kk).1)) := by rw [eMi]; exact mUp_at (nd_ne hnd 10 5 rfl rfl (by decide)) h0_b10
                      have hh_b11 : Mi b11 = some (mDb E 12 (sLE ci LE j (sSt ci kf pi on (tb.map rw) ph le kk).2)) := by rw [eMi]; exact mUp_at (nd_ne hnd 11 5 rfl rfl (by decide)) h0_b11
                      have hh_b12 : Mi b12 = some (mI E 8 KD) := by rw [eMi]; exact mUp_at (nd_ne hnd 12 5 rfl rfl (by decide)) h0_b12
                      have hh_b13 : Mi b13 = some (mI E 8 NM) := by rw [eMi]; exact mUp_at (nd_ne hnd 13 5 rfl rfl (by decide)) h0_b13
                      have hh_b14 : Mi b14 = some (mI E 3 (upd CT 2 (c4 + nI kk))) := by rw [eMi]; exact mUp_at (nd_ne hnd 14 5 rfl rfl (by decide)) h0_b14
                      have hh_b15 : Mi b15 = some (mDb E 40 CM9) := by rw [eMi]; exact mUp_at (nd_ne hnd 15 5 rfl rfl (by decide)) h0_b15
                      have hh_b16 : Mi b16 = some (mJ E 40 MV) := by rw [eMi]; exact mUp_at (nd_ne hnd 16 5 rfl rfl (by decide)) h0_b16
                      have hh_b5 : Mi b5 = some (mJ E 960 (va_cpy (fun z => sBits lane ((fun z => sTurn lane (if wh = 0 then CM9 z else FP.dconst0)) z)) SM 0 (40 * w + a9) k9)) := by rw [eMi]; exact mUp_self _ _ _
                      have g_y := hh_y
                      have g_b1 := hh_b1
                      have g_b2 := hh_b2
                      have g_b3 := hh_b3
                      have g_b4 := hh_b4
                      have g_b5 := hh_b5
                      have g_b6 := hh_b6
                      have g_b7 := hh_b7
                      have g_b8 := hh_b8
                      have g_b9 := hh_b9
                      have g_b10 := hh_b10
                      have g_b11 := hh_b11
                      have g_b12 := hh_b12
                      have g_b13 := hh_b13
                      have g_b14 := hh_b14
                      have g_b15 := hh_b15
                      have g_b16 := hh_b16
                      have hk : kept (nol y b1 b2 b3 b4 b5 b6 b7 b8 b9 b10 b11 b12 b13 b14 b15 b16) M Mi := (by rw [eMi]; exact hk0.up (nol_in 5 rfl))
                      refine lv_iload hx hb dX10_play_243 (lv_at hl 0 rfl) ?_
                      refine lv_iload hx hb dX10_play_245 (lv_at hl 9 rfl) ?_
                      refine lv_icmp_ge (tgt := 298) hx hb dX10_play_247 (by decide) (fun _ => ?_) (fun h9 => False.elim (by revert h9; exact (fun h => h (nI_le (by omega) (by omega)))))
                      refine lv_aload_n hx hb dX10_play_298 rfl (lv_at hl 3 rfl) ?_
                      refine m_get (ci := 8) (v := .ref b14) (C := RX10) (T := TX10) (N := 21) hx hb hts in_X10_play_X10 hown hE hM g_y rfl 18 (by decide) (hts (.fieldLink RX10 52 "CallWays2Model" "counts" "[I") (by decide +kernel)) (fun _ h9 => h9) rfl dX10_play_299 ?_
                      refine lv_iload hx hb dX10_play_302 (lv_at hl 1 rfl) ?_
                      refine lv_if_ne (tgt := 311) hx hb dX10_play_304 (by decide) (fun c_304 => ?_) (fun c_304 => ?_)
                      · skip
                        refine lv_iconst (v := 1) hx hb dX10_play_311 (by decide) ?_
                        refine lv_dup2_11 hx hb dX10_play_312 rfl rfl ?_
                        refine m_iald hx hb hE hM g_b14 in3_1 dX10_play_313 ?_
                        rw [show (upd CT 2 (c4 + nI kk)) (1 : Int32).toNatClampNeg = c3 from by show upd CT 2 (c4 + nI kk) 1 = c3; rw [upd_o (by decide)]; exact hc3]
                        refine lv_iconst (v := 1) hx hb dX10_play_314 (by decide) ?_
                        refine lv_iadd hx hb dX10_play_315 ?_
                        refine m_iast hx hb hE hM hS g_b14 in3_1 dX10_play_316 (fun H locs hM hS => ?_)
                        rw [show upd (upd CT 2 (c4 + nI kk)) (1 : Int32).toNatClampNeg (c3 + 1) = upd (upd CT 2 (c4 + nI kk)) 1 (c3 + 1) from rfl] at hM
                        have hM : mOK E.1 (mA M sz) (mUp Mi b14 (mI E 3 (upd (upd CT 2 (c4 + nI kk)) 1 (c3 + 1)))) H := hM
                        obtain ⟨M31, eM31⟩ : ∃ z, z = mUp Mi b14 (mI E 3 (upd (upd CT 2 (c4 + nI kk)) 1 (c3 + 1))) := ⟨_, rfl⟩
                        rw [← eM31] at hM
                        have g_y_ : M31 y = some (mO 8 [.ref b1, .ref b2, .ref b3, .ref b4, .ref b5, .int (nI nn), .ref b6, .ref b7, .ref b8, .ref b9, .ref b10, .ref b11, .int (nI nf), .ref b12, .ref b13, .int bd, .int st, .int fa9, .ref b14, .ref b15, .ref b16]) := by rw [eM31]; exact mUp_at (nd_ne hnd 0 14 rfl rfl (by decide)) g_y
                        have g_b1_ : M31 b1 = some (mI E 10 B) := by rw [eM31]; exact mUp_at (nd_ne hnd 1 14 rfl rfl (by decide)) g_b1
                        have g_b2_ : M31 b2 = some (mI E 12 T) := by rw [eM31]; exact mUp_at (nd_ne hnd 2 14 rfl rfl (by decide)) g_b2
                        have g_b3_ : M31 b3 = some (mI E 24 LN) := by rw [eM31]; exact mUp_at (nd_ne hnd 3 14 rfl rfl (by decide)) g_b3
                        have g_b4_ : M31 b4 = some (mI E 24 SZ) := by rw [eM31]; exact mUp_at (nd_ne hnd 4 14 rfl rfl (by decide)) g_b4
                        have g_b5_ : M31 b5 = some (mJ E 960 (va_cpy (fun z => sBits lane ((fun z => sTurn lane (if wh = 0 then CM9 z else FP.dconst0)) z)) SM 0 (40 * w + a9) k9)) := by rw [eM31]; exact mUp_at (nd_ne hnd 5 14 rfl rfl (by decide)) g_b5
                        have g_b6_ : M31 b6 = some (mI E 12 SO) := by rw [eM31]; exact mUp_at (nd_ne hnd 6 14 rfl rfl (by decide)) g_b6
                        have g_b7_ : M31 b7 = some (mI E 48 KN) := by rw [eM31]; exact mUp_at (nd_ne hnd 7 14 rfl rfl (by decide)) g_b7
                        have g_b8_ : M31 b8 = some (mI E 12 PI) := by rw [eM31]; exact mUp_at (nd_ne hnd 8 14 rfl rfl (by decide)) g_b8
                        have g_b9_ : M31 b9 = some (mZ E 12 ON) := by rw [eM31]; exact mUp_at (nd_ne hnd 9 14 rfl rfl (by decide)) g_b9
                        have g_b10_ : M31 b10 = some (mI E 12 (upd PH j (sSt ci kf pi on (tb.map rw) ph le kk).1)) := by rw [eM31]; exact mUp_at (nd_ne hnd 10 14 rfl rfl (by decide)) g_b10
                        have g_b11_ : M31 b11 = some (mDb E 12 (sLE ci LE j (sSt ci kf pi on (tb.map rw) ph le kk).2)) := by rw [eM31]; exact mUp_at (nd_ne hnd 11 14 rfl rfl (by decide)) g_b11
                        have g_b12_ : M31 b12 = some (mI E 8 KD) := by rw [eM31]; exact mUp_at (nd_ne hnd 12 14 rfl rfl (by decide)) g_b12
                        have g_b13_ : M31 b13 = some (mI E 8 NM) := by rw [eM31]; exact mUp_at (nd_ne hnd 13 14 rfl rfl (by decide)) g_b13
                        have g_b15_ : M31 b15 = some (mDb E 40 CM9) := by rw [eM31]; exact mUp_at (nd_ne hnd 15 14 rfl rfl (by decide)) g_b15
                        have g_b16_ : M31 b16 = some (mJ E 40 MV) := by rw [eM31]; exact mUp_at (nd_ne hnd 16 14 rfl rfl (by decide)) g_b16
                        have g_y := g_y_
                        have g_b1 := g_b1_
                        have g_b2 := g_b2_
                        have g_b3 := g_b3_
                        have g_b4 := g_b4_
                        have g_b5 := g_b5_
                        have g_b6 := g_b6_
                        have g_b7 := g_b7_
                        have g_b8 := g_b8_
                        have g_b9 := g_b9_
                        have g_b10 := g_b10_
                        have g_b11 := g_b11_
                        have g_b12 := g_b12_
                        have g_b13 := g_b13_
                        have g_b15 := g_b15_
                        have g_b16 := g_b16_
                        have g_b14 : M31 b14 = some (mI E 3 (upd (upd CT 2 (c4 + nI kk)) 1 (c3 + 1))) := by rw [eM31]; exact mUp_self _ _ _
                        have hk : kept (nol y b1 b2 b3 b4 b5 b6 b7 b8 b9 b10 b11 b12 b13 b14 b15 b16) M M31 := (by rw [eM31]; exact hk.up (nol_in 14 rfl))
                        refine lv_aload_n hx hb dX10_play_317 rfl (lv_at hl 3 rfl) ?_
                        refine lv_iload hx hb dX10_play_318 (lv_at hl 1 rfl) ?_
                        refine lv_if_ne (tgt := 328) hx hb dX10_play_320 (by decide) (fun _ => ?_) (fun h9 => False.elim (by revert h9; exact (fun h => absurd h c_304)))
                        refine lv_iload hx hb dX10_play_328 (lv_at hl 1 rfl) ?_
                        refine m_calli (va_runV (As := [.int wh]) (rest := []) ⟨hx, hb, hml, hown, hts⟩ (c_X10_says l E M31 H.size y b1 b2 b3 b4 b5 b6 b7 b8 b9 b10 b11 b12 b13 b14 b15 b16 (nI nn) (nI nf) bd st fa9 wh g_y) (cwV 1 hts gX10_play_X10_says rfl rfl rfl (by decide +kernel) ⟨Nat.le_of_ble_eq_true rfl, Nat.le_of_ble_eq_true rfl⟩) (m_preV hE hM g_y rfl) rfl rfl hl.1 rfl (lv_room (Nat.le_of_ble_eq_true rfl)) dX10_play_330 ⟨Nat.le_of_ble_eq_true rfl, Nat.le_of_ble_eq_true rfl⟩) hM hS hA (fun r2 M32 H locs hw hM hS => ?_)
                        obtain ⟨e_r2, eM32⟩ := hw
                        subst r2
                        have g_b1_ : M32 b1 = some (mI E 10 B) := by rw [eM32]; exact mUp_at (nd_ne hnd 1 0 rfl rfl (by decide)) g_b1
                        have g_b2_ : M32 b2 = some (mI E 12 T) := by rw [eM32]; exact mUp_at (nd_ne hnd 2 0 rfl rfl (by decide)) g_b2
                        have g_b3_ : M32 b3 = some (mI E 24 LN) := by rw [eM32]; exact mUp_at (nd_ne hnd 3 0 rfl rfl (by decide)) g_b3
                        have g_b4_ : M32 b4 = some (mI E 24 SZ) := by rw [eM32]; exact mUp_at (nd_ne hnd 4 0 rfl rfl (by decide)) g_b4
                        have g_b5_ : M32 b5 = some (mJ E 960 (va_cpy (fun z => sBits lane ((fun z => sTurn lane (if wh = 0 then CM9 z else FP.dconst0)) z)) SM 0 (40 * w + a9) k9)) := by rw [eM32]; exact mUp_at (nd_ne hnd 5 0 rfl rfl (by decide)) g_b5
                        have g_b6_ : M32 b6 = some (mI E 12 SO) := by rw [eM32]; exact mUp_at (nd_ne hnd 6 0 rfl rfl (by decide)) g_b6
                        have g_b7_ : M32 b7 = some (mI E 48 KN) := by rw [eM32]; exact mUp_at (nd_ne hnd 7 0 rfl rfl (by decide)) g_b7
                        have g_b8_ : M32 b8 = some (mI E 12 PI) := by rw [eM32]; exact mUp_at (nd_ne hnd 8 0 rfl rfl (by decide)) g_b8
                        have g_b9_ : M32 b9 = some (mZ E 12 ON) := by rw [eM32]; exact mUp_at (nd_ne hnd 9 0 rfl rfl (by decide)) g_b9
                        have g_b10_ : M32 b10 = some (mI E 12 (upd PH j (sSt ci kf pi on (tb.map rw) ph le kk).1)) := by rw [eM32]; exact mUp_at (nd_ne hnd 10 0 rfl rfl (by decide)) g_b10
                        have g_b11_ : M32 b11 = some (mDb E 12 (sLE ci LE j (sSt ci kf pi on (tb.map rw) ph le kk).2)) := by rw [eM32]; exact mUp_at (nd_ne hnd 11 0 rfl rfl (by decide)) g_b11
                        have g_b12_ : M32 b12 = some (mI E 8 KD) := by rw [eM32]; exact mUp_at (nd_ne hnd 12 0 rfl rfl (by decide)) g_b12
                        have g_b13_ : M32 b13 = some (mI E 8 NM) := by rw [eM32]; exact mUp_at (nd_ne hnd 13 0 rfl rfl (by decide)) g_b13
                        have g_b14_ : M32 b14 = some (mI E 3 (upd (upd CT 2 (c4 + nI kk)) 1 (c3 + 1))) := by rw [eM32]; exact mUp_at (nd_ne hnd 14 0 rfl rfl (by decide)) g_b14
                        have g_b15_ : M32 b15 = some (mDb E 40 CM9) := by rw [eM32]; exact mUp_at (nd_ne hnd 15 0 rfl rfl (by decide)) g_b15
                        have g_b16_ : M32 b16 = some (mJ E 40 MV) := by rw [eM32]; exact mUp_at (nd_ne hnd 16 0 rfl rfl (by decide)) g_b16
                        have g_b1 := g_b1_
                        have g_b2 := g_b2_
                        have g_b3 := g_b3_
                        have g_b4 := g_b4_
                        have g_b5 := g_b5_
                        have g_b6 := g_b6_
                        have g_b7 := g_b7_
                        have g_b8 := g_b8_
                        have g_b9 := g_b9_
                        have g_b10 := g_b10_
                        have g_b11 := g_b11_
                        have g_b12 := g_b12_
                        have g_b13 := g_b13_
                        have g_b14 := g_b14_
                        have g_b15 := g_b15_
                        have g_b16 := g_b16_
                        have g_y : M32 y = some (mO 8 [.ref b1, .ref b2, .ref b3, .ref b4, .ref b5, .int (nI nn), .ref b6, .ref b7, .ref b8, .ref b9, .ref b10, .ref b11, .int (nI nf), .ref b12, .ref b13, .int bd, .int (if wh < 0 then wh else 0), .int fa9, .ref b14, .ref b15, .ref b16]) := by rw [eM32]; exact mUp_self _ _ _
                        have hk : kept (nol y b1 b2 b3 b4 b5 b6 b7 b8 b9 b10 b11 b12 b13 b14 b15 b16) M M32 := (by rw [eM32]; exact hk.up (nol_in 0 rfl))
                        rw [if_pos (hwh.resolve_left c_304)] at g_y
                        exact m_iret hx hb hr hlocks hM hS (Nat.le_refl _) (Nat.le_refl _) dX10_play_333 (by refine ⟨(by show _ = (if vPl nn nf (nI j) wy (nI q) b then (if plF bk rw bd b wy (nI a9) (nI kn) = 0 then (if (plGo ins rw (plFu fn wy (nI q)) (nI j).toNatClampNeg (nI kn).toNatClampNeg).1 = 0 then nI kn else (plGo ins rw (plFu fn wy (nI q)) (nI j).toNatClampNeg (nI kn).toNatClampNeg).1) else _) else -1); rw [if_pos hvp, if_pos hpf, hjc, hkc, ← efu, hgo1]; exact (if_neg c_304).symm), ?_, hk⟩; show mR E _ y b1 b2 b3 b4 b5 b6 b7 b8 b9 b10 b11 b12 b13 b14 b15 b16 (if vPl nn nf (nI j) wy (nI q) b then (if plF bk rw bd b wy (nI a9) (nI kn) = 0 then (nn, plIns ins rw (plFu fn wy (nI q)) (nI j).toNatClampNeg (nI kn).toNatClampNeg, nf, fn, bk, plRw ins bk rw (plFu fn wy (nI q)) (nI j).toNatClampNeg (nI kn).toNatClampNeg (nI a9).toNatClampNeg b.toNatClampNeg, bd, (plGo ins rw (plFu fn wy (nI q)) (nI j).toNatClampNeg (nI kn).toNatClampNeg).1, (if (plGo ins rw (plFu fn wy (nI q)) (nI j).toNatClampNeg (nI kn).toNatClampNeg).1 = 0 then c2 + 1 else c2), (if (plGo ins rw (plFu fn wy (nI q)) (nI j).toNatClampNeg (nI kn).toNatClampNeg).1 = 0 then c3 else c3 + 1), c4 + nI (plGo ins rw (plFu fn wy (nI q)) (nI j).toNatClampNeg (nI kn).toNatClampNeg).2) else _) else _); rw [if_pos hvp, if_pos hpf, hjc, hkc, hac, hjbc, ← efu]; have hni : plIns ins rw fu j kn = va_up ins j (ci, kf, pi, on, (sSt ci kf pi on (tb.map rw) ph le kk).1, (sSt ci kf pi on (tb.map rw) ph le kk).2, tb) := (by unfold plIns; rw [hins]; show va_up ins j (ci, kf, pi, on, (sSt ci kf pi on (tb.map rw) ph le (plGo ins rw fu j kn).2).1, (sSt ci kf pi on (tb.map rw) ph le (plGo ins rw fu j kn).2).2, tb) = _; rw [hgo1]); have hnr : plRw ins bk rw fu j kn a9 jb = va_up rw w (lane, n0, dlv f0w a9 (fun z => sTurn lane (if wh = 0 then CM9 z else FP.dconst0)) kn) := (by unfold plRw; rw [hbk]; show va_up rw w ((rw w).1, (rw w).2.1, dlv (rw w).2.2 a9 (fun z => sTurn (rw w).1 (if (plGo ins rw fu j kn).1 = 0 then plSm ins rw fu j z else FP.dconst0)) kn) = _; rw [hrw, hgo1]; congr 1; show (lane, n0, dlv f0w a9 _ kn) = _; rw [dlv_c (fun z hz => (by show sTurn lane (if wh = 0 then plSm ins rw fu j z else FP.dconst0) = sTurn lane (if wh = 0 then CM9 z else FP.dconst0); by_cases hw0 : wh = 0; exact (by rw [if_pos hw0, if_pos hw0, hCM hw0 z hz]; unfold plSm; rw [hins]); exact (by rw [if_neg hw0, if_neg hw0])))]); rw [hni, hnr, hgo1]; rw [if_neg c_304, if_neg c_304]; exact ⟨_, _, _, _, _, _, _, _, _, _, _, _, _, _, _, _, _, ⟨g_y, g_b1, g_b2, g_b3, g_b4, g_b5, g_b6, g_b7, g_b8, g_b9, g_b10, g_b11, g_b12, g_b13, g_b14, g_b15, g_b16⟩, hB, (by rw [tbs_same (by rw [htbj])]; exact hT), ((hR.mono (live_up' (by rw [hins]))).set (live_upr (by rw [hins]) hlv) hrw (fun r hr => h40 r (live_up' (by rw [hins]) r hr)) (fun z hz => (by rw [show k9 = kn by omega]; exact dlv_new hSm hz)) (fun r hr z hz => mv_old hr (by omega) hz)), (hN.up (fun z _ hzj => ⟨rfl, fun _ _ => rfl, rfl, rfl, upd_o hzj, sLE_o hzj⟩) (fun z _ => ⟨id, id⟩) ⟨hSo, hKn, hPi, hOn, upd_s, fun z => sLE_s (z.resolve_left (by omega))⟩), hF, (by show upd (upd CT 2 (c4 + nI kk)) 1 (c3 + 1) 0 = _; rw [upd_o (by decide), upd_o (by decide)]; exact hc2), (by show upd (upd CT 2 (c4 + nI kk)) 1 (c3 + 1) 1 = _; exact upd_s), (by show upd (upd CT 2 (c4 + nI kk)) 1 (c3 + 1) 2 = _; rw [upd_o (by decide)]; exact upd_s)⟩)
                      · skip
                        refine lv_iconst (v := 0) hx hb dX10_play_307 (by decide) ?_
                        refine lv_goto (tgt := 312) hx hb dX10_play_308 (by decide) ?_
                        refine lv_dup2_11 hx hb dX10_play_312 rfl rfl ?_
                        refine m_iald hx hb hE hM g_b14 in3_0 dX10_play_313 ?_
                        rw [show (upd CT 2 (c4 + nI kk)) (0 : Int32).toNatClampNeg = c2 from by show upd CT 2 (c4 + nI kk) 0 = c2; rw [upd_o (by decide)]; exact hc2]
                        refine lv_iconst (v := 1) hx hb dX10_play_314 (by decide) ?_
                        refine lv_iadd hx hb dX10_play_315 ?_
                        refine m_iast hx hb hE hM hS g_b14 in3_0 dX10_play_316 (fun H locs hM hS => ?_)
                        rw [show upd (upd CT 2 (c4 + nI kk)) (0 : Int32).toNatClampNeg (c2 + 1) = upd (upd CT 2 (c4 + nI kk)) 0 (c2 + 1) from rfl] at hM
                        have hM : mOK E.1 (mA M sz) (mUp Mi b14 (mI E 3 (upd (upd CT 2 (c4 + nI kk)) 0 (c2 + 1)))) H := hM
                        obtain ⟨M33, eM33⟩ : ∃ z, z = mUp Mi b14 (mI E 3 (upd (upd CT 2 (c4 + nI kk)) 0 (c2 + 1))) := ⟨_, rfl⟩
                        rw [← eM33] at hM
                        have g_y_ : M33 y = some (mO 8 [.ref b1, .ref b2, .ref b3, .ref b4, .ref b5, .int (nI nn), .ref b6, .ref b7, .ref b8, .ref b9, .ref b10, .ref b11, .int (nI nf), .ref b12, .ref b13, .int bd, .int st, .int fa9, .ref b14, .ref b15, .ref b16]) := by rw [eM33]; exact mUp_at (nd_ne hnd 0 14 rfl rfl (by decide)) g_y
                        have g_b1_ : M33 b1 = some (mI E 10 B) := by rw [eM33]; exact mUp_at (nd_ne hnd 1 14 rfl rfl (by decide)) g_b1
                        have g_b2_ : M33 b2 = some (mI E 12 T) := by rw [eM33]; exact mUp_at (nd_ne hnd 2 14 rfl rfl (by decide)) g_b2
                        have g_b3_ : M33 b3 = some (mI E 24 LN) := by rw [eM33]; exact mUp_at (nd_ne hnd 3 14 rfl rfl (by decide)) g_b3
                        have g_b4_ : M33 b4 = some (mI E 24 SZ) := by rw [eM33]; exact mUp_at (nd_ne hnd 4 14 rfl rfl (by decide)) g_b4
                        have g_b5_ : M33 b5 = some (mJ E 960 (va_cpy (fun z => sBits lane ((fun z => sTurn lane (if wh = 0 then CM9 z else FP.dconst0)) z)) SM 0 (40 * w + a9) k9)) := by rw [eM33]; exact mUp_at (nd_ne hnd 5 14 rfl rfl (by decide)) g_b5
                        have g_b6_ : M33 b6 = some (mI E 12 SO) := by rw [eM33]; exact mUp_at (nd_ne hnd 6 14 rfl rfl (by decide)) g_b6
                        have g_b7_ : M33 b7 = some (mI E 48 KN) := by rw [eM33]; exact mUp_at (nd_ne hnd 7 14 rfl rfl (by decide)) g_b7
                        have g_b8_ : M33 b8 = some (mI E 12 PI) := by rw [eM33]; exact mUp_at (nd_ne hnd 8 14 rfl rfl (by decide)) g_b8
                        have g_b9_ : M33 b9 = some (mZ E 12 ON) := by rw [eM33]; exact mUp_at (nd_ne hnd 9 14 rfl rfl (by decide)) g_b9
                        have g_b10_ : M33 b10 = some (mI E 12 (upd PH j (sSt ci kf pi on (tb.map rw) ph le kk).1)) := by rw [eM33]; exact mUp_at (nd_ne hnd 10 14 rfl rfl (by decide)) g_b10
                        have g_b11_ : M33 b11 = some (mDb E 12 (sLE ci LE j (sSt ci kf pi on (tb.map rw) ph le kk).2)) := by rw [eM33]; exact mUp_at (nd_ne hnd 11 14 rfl rfl (by decide)) g_b11
                        have g_b12_ : M33 b12 = some (mI E 8 KD) := by rw [eM33]; exact mUp_at (nd_ne hnd 12 14 rfl rfl (by decide)) g_b12
                        have g_b13_ : M33 b13 = some (mI E 8 NM) := by rw [eM33]; exact mUp_at (nd_ne hnd 13 14 rfl rfl (by decide)) g_b13
                        have g_b15_ : M33 b15 = some (mDb E 40 CM9) := by rw [eM33]; exact mUp_at (nd_ne hnd 15 14 rfl rfl (by decide)) g_b15
                        have g_b16_ : M33 b16 = some (mJ E 40 MV) := by rw [eM33]; exact mUp_at (nd_ne hnd 16 14 rfl rfl (by decide)) g_b16
                        have g_y := g_y_
                        have g_b1 := g_b1_
                        have g_b2 := g_b2_
                        have g_b3 := g_b3_
                        have g_b4 := g_b4_
                        have g_b5 := g_b5_
                        have g_b6 := g_b6_
                        have g_b7 := g_b7_
                        have g_b8 := g_b8_
                        have g_b9 := g_b9_
                        have g_b10 := g_b10_
                        have g_b11 := g_b11_
                        have g_b12 := g_b12_
                        have g_b13 := g_b13_
                        have g_b15 := g_b15_
                        have g_b16 := g_b16_
                        have g_b14 : M33 b14 = some (mI E 3 (upd (upd CT 2 (c4 + nI kk)) 0 (c2 + 1))) := by rw [eM33]; exact mUp_self _ _ _
                        have hk : kept (nol y b1 b2 b3 b4 b5 b6 b7 b8 b9 b10 b11 b12 b13 b14 b15 b16) M M33 := (by rw [eM33]; exact hk.up (nol_in 14 rfl))
                        refine lv_aload_n hx hb dX10_play_317 rfl (lv_at hl 3 rfl) ?_
                        refine lv_iload hx hb dX10_play_318 (lv_at hl 1 rfl) ?_
                        refine lv_if_ne (tgt := 328) hx hb dX10_play_320 (by decide) (fun h9 => False.elim (by revert h9; exact (fun h => h c_304))) (fun _ => ?_)
                        refine lv_iload hx hb dX10_play_323 (lv_at hl 9 rfl) ?_
                        refine lv_goto (tgt := 330) hx hb dX10_play_325 (by decide) ?_
                        refine m_calli (va_runV (As := [.int (nI kn)]) (rest := []) ⟨hx, hb, hml, hown, hts⟩ (c_X10_says l E M33 H.size y b1 b2 b3 b4 b5 b6 b7 b8 b9 b10 b11 b12 b13 b14 b15 b16 (nI nn) (nI nf) bd st fa9 (nI kn) g_y) (cwV 1 hts gX10_play_X10_says rfl rfl rfl (by decide +kernel) ⟨Nat.le_of_ble_eq_true rfl, Nat.le_of_ble_eq_true rfl⟩) (m_preV hE hM g_y rfl) rfl rfl hl.1 rfl (lv_room (Nat.le_of_ble_eq_true rfl)) dX10_play_330 ⟨Nat.le_of_ble_eq_true rfl, Nat.le_of_ble_eq_true rfl⟩) hM hS hA (fun r2 M34 H locs hw hM hS => ?_)
                        obtain ⟨e_r2, eM34⟩ := hw
                        subst e_r2
                        have g_b1_ : M34 b1 = some (mI E 10 B) := by rw [eM34]; exact mUp_at (nd_ne hnd 1 0 rfl rfl (by decide)) g_b1
                        have g_b2_ : M34 b2 = some (mI E 12 T) := by rw [eM34]; exact mUp_at (nd_ne hnd 2 0 rfl rfl (by decide)) g_b2
                        have g_b3_ : M34 b3 = some (mI E 24 LN) := by rw [eM34]; exact mUp_at (nd_ne hnd 3 0 rfl rfl (by decide)) g_b3
                        have g_b4_ : M34 b4 = some (mI E 24 SZ) := by rw [eM34]; exact mUp_at (nd_ne hnd 4 0 rfl rfl (by decide)) g_b4
                        have g_b5_ : M34 b5 = some (mJ E 960 (va_cpy (fun z => sBits lane ((fun z => sTurn lane (if wh = 0 then CM9 z else FP.dconst0)) z)) SM 0 (40 * w + a9) k9)) := by rw [eM34]; exact mUp_at (nd_ne hnd 5 0 rfl rfl (by decide)) g_b5
                        have g_b6_ : M34 b6 = some (mI E 12 SO) := by rw [eM34]; exact mUp_at (nd_ne hnd 6 0 rfl rfl (by decide)) g_b6
                        have g_b7_ : M34 b7 = some (mI E 48 KN) := by rw [eM34]; exact mUp_at (nd_ne hnd 7 0 rfl rfl (by decide)) g_b7
                        have g_b8_ : M34 b8 = some (mI E 12 PI) := by rw [eM34]; exact mUp_at (nd_ne hnd 8 0 rfl rfl (by decide)) g_b8
                        have g_b9_ : M34 b9 = some (mZ E 12 ON) := by rw [eM34]; exact mUp_at (nd_ne hnd 9 0 rfl rfl (by decide)) g_b9
                        have g_b10_ : M34 b10 = some (mI E 12 (upd PH j (sSt ci kf pi on (tb.map rw) ph le kk).1)) := by rw [eM34]; exact mUp_at (nd_ne hnd 10 0 rfl rfl (by decide)) g_b10
                        have g_b11_ : M34 b11 = some (mDb E 12 (sLE ci LE j (sSt ci kf pi on (tb.map rw) ph le kk).2)) := by rw [eM34]; exact mUp_at (nd_ne hnd 11 0 rfl rfl (by decide)) g_b11
                        have g_b12_ : M34 b12 = some (mI E 8 KD) := by rw [eM34]; exact mUp_at (nd_ne hnd 12 0 rfl rfl (by decide)) g_b12
                        have g_b13_ : M34 b13 = some (mI E 8 NM) := by rw [eM34]; exact mUp_at (nd_ne hnd 13 0 rfl rfl (by decide)) g_b13
                        have g_b14_ : M34 b14 = some (mI E 3 (upd (upd CT 2 (c4 + nI kk)) 0 (c2 + 1))) := by rw [eM34]; exact mUp_at (nd_ne hnd 14 0 rfl rfl (by decide)) g_b14
                        have g_b15_ : M34 b15 = some (mDb E 40 CM9) := by rw [eM34]; exact mUp_at (nd_ne hnd 15 0 rfl rfl (by decide)) g_b15
                        have g_b16_ : M34 b16 = some (mJ E 40 MV) := by rw [eM34]; exact mUp_at (nd_ne hnd 16 0 rfl rfl (by decide)) g_b16
                        have g_b1 := g_b1_
                        have g_b2 := g_b2_
                        have g_b3 := g_b3_
                        have g_b4 := g_b4_
                        have g_b5 := g_b5_
                        have g_b6 := g_b6_
                        have g_b7 := g_b7_
                        have g_b8 := g_b8_
                        have g_b9 := g_b9_
                        have g_b10 := g_b10_
                        have g_b11 := g_b11_
                        have g_b12 := g_b12_
                        have g_b13 := g_b13_
                        have g_b14 := g_b14_
                        have g_b15 := g_b15_
                        have g_b16 := g_b16_
                        have g_y : M34 y = some (mO 8 [.ref b1, .ref b2, .ref b3, .ref b4, .ref b5, .int (nI nn), .ref b6, .ref b7, .ref b8, .ref b9, .ref b10, .ref b11, .int (nI nf), .ref b12, .ref b13, .int bd, .int (if (nI kn) < 0 then nI kn else 0), .int fa9, .ref b14, .ref b15, .ref b16]) := by rw [eM34]; exact mUp_self _ _ _
                        have hk : kept (nol y b1 b2 b3 b4 b5 b6 b7 b8 b9 b10 b11 b12 b13 b14 b15 b16) M M34 := (by rw [eM34]; exact hk.up (nol_in 0 rfl))
                        rw [show (if nI kn < 0 then nI kn else 0) = wh from (by rw [c_304]; exact if_neg (Int32.not_lt.mpr ((nI_leI (a := 0) (by decide) (by omega)).mpr (Nat.zero_le kn))))] at g_y
                        exact m_iret hx hb hr hlocks hM hS (Nat.le_refl _) (Nat.le_refl _) dX10_play_333 (by refine ⟨(by show _ = (if vPl nn nf (nI j) wy (nI q) b then (if plF bk rw bd b wy (nI a9) (nI kn) = 0 then (if (plGo ins rw (plFu fn wy (nI q)) (nI j).toNatClampNeg (nI kn).toNatClampNeg).1 = 0 then nI kn else (plGo ins rw (plFu fn wy (nI q)) (nI j).toNatClampNeg (nI kn).toNatClampNeg).1) else _) else -1); rw [if_pos hvp, if_pos hpf, hjc, hkc, ← efu, hgo1]; exact (if_pos c_304).symm), ?_, hk⟩; show mR E _ y b1 b2 b3 b4 b5 b6 b7 b8 b9 b10 b11 b12 b13 b14 b15 b16 (if vPl nn nf (nI j) wy (nI q) b then (if plF bk rw bd b wy (nI a9) (nI kn) = 0 then (nn, plIns ins rw (plFu fn wy (nI q)) (nI j).toNatClampNeg (nI kn).toNatClampNeg, nf, fn, bk, plRw ins bk rw (plFu fn wy (nI q)) (nI j).toNatClampNeg (nI kn).toNatClampNeg (nI a9).toNatClampNeg b.toNatClampNeg, bd, (plGo ins rw (plFu fn wy (nI q)) (nI j).toNatClampNeg (nI kn).toNatClampNeg).1, (if (plGo ins rw (plFu fn wy (nI q)) (nI j).toNatClampNeg (nI kn).toNatClampNeg).1 = 0 then c2 + 1 else c2), (if (plGo ins rw (plFu fn wy (nI q)) (nI j).toNatClampNeg (nI kn).toNatClampNeg).1 = 0 then c3 else c3 + 1), c4 + nI (plGo ins rw (plFu fn wy (nI q)) (nI j).toNatClampNeg (nI kn).toNatClampNeg).2) else _) else _); rw [if_pos hvp, if_pos hpf, hjc, hkc, hac, hjbc, ← efu]; have hni : plIns ins rw fu j kn = va_up ins j (ci, kf, pi, on, (sSt ci kf pi on (tb.map rw) ph le kk).1, (sSt ci kf pi on (tb.map rw) ph le kk).2, tb) := (by unfold plIns; rw [hins]; show va_up ins j (ci, kf, pi, on, (sSt ci kf pi on (tb.map rw) ph le (plGo ins rw fu j kn).2).1, (sSt ci kf pi on (tb.map rw) ph le (plGo ins rw fu j kn).2).2, tb) = _; rw [hgo1]); have hnr : plRw ins bk rw fu j kn a9 jb = va_up rw w (lane, n0, dlv f0w a9 (fun z => sTurn lane (if wh = 0 then CM9 z else FP.dconst0)) kn) := (by unfold plRw; rw [hbk]; show va_up rw w ((rw w).1, (rw w).2.1, dlv (rw w).2.2 a9 (fun z => sTurn (rw w).1 (if (plGo ins rw fu j kn).1 = 0 then plSm ins rw fu j z else FP.dconst0)) kn) = _; rw [hrw, hgo1]; congr 1; show (lane, n0, dlv f0w a9 _ kn) = _; rw [dlv_c (fun z hz => (by show sTurn lane (if wh = 0 then plSm ins rw fu j z else FP.dconst0) = sTurn lane (if wh = 0 then CM9 z else FP.dconst0); by_cases hw0 : wh = 0; exact (by rw [if_pos hw0, if_pos hw0, hCM hw0 z hz]; unfold plSm; rw [hins]); exact (by rw [if_neg hw0, if_neg hw0])))]); rw [hni, hnr, hgo1]; rw [if_pos c_304, if_pos c_304]; exact ⟨_, _, _, _, _, _, _, _, _, _, _, _, _, _, _, _, _, ⟨g_y, g_b1, g_b2, g_b3, g_b4, g_b5, g_b6, g_b7, g_b8, g_b9, g_b10, g_b11, g_b12, g_b13, g_b14, g_b15, g_b16⟩, hB, (by rw [tbs_same (by rw [htbj])]; exact hT), ((hR.mono (live_up' (by rw [hins]))).set (live_upr (by rw [hins]) hlv) hrw (fun r hr => h40 r (live_up' (by rw [hins]) r hr)) (fun z hz => (by rw [show k9 = kn by omega]; exact dlv_new hSm hz)) (fun r hr z hz => mv_old hr (by omega) hz)), (hN.up (fun z _ hzj => ⟨rfl, fun _ _ => rfl, rfl, rfl, upd_o hzj, sLE_o hzj⟩) (fun z _ => ⟨id, id⟩) ⟨hSo, hKn, hPi, hOn, upd_s, fun z => sLE_s (z.resolve_left (by omega))⟩), hF, (by show upd (upd CT 2 (c4 + nI kk)) 0 (c2 + 1) 0 = _; exact upd_s), (by show upd (upd CT 2 (c4 + nI kk)) 0 (c2 + 1) 1 = _; rw [upd_o (by decide), upd_o (by decide)]; exact hc3), (by show upd (upd CT 2 (c4 + nI kk)) 0 (c2 + 1) 2 = _; rw [upd_o (by decide)]; exact upd_s)⟩)
                    | succ n9 ih =>
                      intro k9 Mi ls H locs hk9 eMi hM hS hl
                      have hh_y : Mi y = some (mO 8 [.ref b1, .ref b2, .ref b3, .ref b4, .ref b5, .int (nI nn), .ref b6, .ref b7, .ref b8, .ref b9, .ref b10, .ref b11, .int (nI nf), .ref b12, .ref b13, .int bd, .int st, .int fa9, .ref b14, .ref b15, .ref b16]) := by rw [eMi]; exact mUp_at (nd_ne hnd 0 5 rfl rfl (by decide)) h0_y
                      have hh_b1 : Mi b1 = some (mI E 10 B) := by rw [eMi]; exact mUp_at (nd_ne hnd 1 5 rfl rfl (by decide)) h0_b1
                      have hh_b2 : Mi b2 = some (mI E 12 T) := by rw [eMi]; exact mUp_at (nd_ne hnd 2 5 rfl rfl (by decide)) h0_b2
                      have hh_b3 : Mi b3 = some (mI E 24 LN) := by rw [eMi]; exact mUp_at (nd_ne hnd 3 5 rfl rfl (by decide)) h0_b3
                      have hh_b4 : Mi b4 = some (mI E 24 SZ) := by rw [eMi]; exact mUp_at (nd_ne hnd 4 5 rfl rfl (by decide)) h0_b4
                      have hh_b6 : Mi b6 = some (mI E 12 SO) := by rw [eMi]; exact mUp_at (nd_ne hnd 6 5 rfl rfl (by decide)) h0_b6
                      have hh_b7 : Mi b7 = some (mI E 48 KN) := by rw [eMi]; exact mUp_at (nd_ne hnd 7 5 rfl rfl (by decide)) h0_b7
                      have hh_b8 : Mi b8 = some (mI E 12 PI) := by rw [eMi]; exact mUp_at (nd_ne hnd 8 5 rfl rfl (by decide)) h0_b8
                      have hh_b9 : Mi b9 = some (mZ E 12 ON) := by rw [eMi]; exact mUp_at (nd_ne hnd 9 5 rfl rfl (by decide)) h0_b9
                      have hh_b10 : Mi b10 = some (mI E 12 (upd PH j (sSt ci kf pi on (tb.map rw) ph le kk).1)) := by rw [eMi]; exact mUp_at (nd_ne hnd 10 5 rfl rfl (by decide)) h0_b10
                      have hh_b11 : Mi b11 = some (mDb E 12 (sLE ci LE j (sSt ci kf pi on (tb.map rw) ph le kk).2)) := by rw [eMi]; exact mUp_at (nd_ne hnd 11 5 rfl rfl (by decide)) h0_b11
                      have hh_b12 : Mi b12 = some (mI E 8 KD) := by rw [eMi]; exact mUp_at (nd_ne hnd 12 5 rfl rfl (by decide)) h0_b12
                      have hh_b13 : Mi b13 = some (mI E 8 NM) := by rw [eMi]; exact mUp_at (nd_ne hnd 13 5 rfl rfl (by decide)) h0_b13
                      have hh_b14 : Mi b14 = some (mI E 3 (upd CT 2 (c4 + nI kk))) := by rw [eMi]; exact mUp_at (nd_ne hnd 14 5 rfl rfl (by decide)) h0_b14
                      have hh_b15 : Mi b15 = some (mDb E 40 CM9) := by rw [eMi]; exact mUp_at (nd_ne hnd 15 5 rfl rfl (by decide)) h0_b15
                      have hh_b16 : Mi b16 = some (mJ E 40 MV) := by rw [eMi]; exact mUp_at (nd_ne hnd 16 5 rfl rfl (by decide)) h0_b16
                      have hh_b5 : Mi b5 = some (mJ E 960 (va_cpy (fun z => sBits lane ((fun z => sTurn lane (if wh = 0 then CM9 z else FP.dconst0)) z)) SM 0 (40 * w + a9) k9)) := by rw [eMi]; exact mUp_self _ _ _
                      have g_y := hh_y
                      have g_b1 := hh_b1
                      have g_b2 := hh_b2
                      have g_b3 := hh_b3
                      have g_b4 := hh_b4
                      have g_b5 := hh_b5
                      have g_b6 := hh_b6
                      have g_b7 := hh_b7
                      have g_b8 := hh_b8
                      have g_b9 := hh_b9
                      have g_b10 := hh_b10
                      have g_b11 := hh_b11
                      have g_b12 := hh_b12
                      have g_b13 := hh_b13
                      have g_b14 := hh_b14
                      have g_b15 := hh_b15
                      have g_b16 := hh_b16
                      have hk : kept (nol y b1 b2 b3 b4 b5 b6 b7 b8 b9 b10 b11 b12 b13 b14 b15 b16) M Mi := (by rw [eMi]; exact hk0.up (nol_in 5 rfl))
                      refine lv_iload hx hb dX10_play_243 (lv_at hl 0 rfl) ?_
                      refine lv_iload hx hb dX10_play_245 (lv_at hl 9 rfl) ?_
                      refine lv_icmp_ge (tgt := 298) hx hb dX10_play_247 (by decide) (fun h9 => False.elim (by revert h9; exact (fun h => absurd h (nI_ge (by omega) (by omega))))) (fun _ => ?_)
                      refine lv_aload_n hx hb dX10_play_250 rfl (lv_at hl 3 rfl) ?_
                      refine m_get (ci := 8) (v := .ref b5) (C := RX10) (T := TX10) (N := 21) hx hb hts in_X10_play_X10 hown hE hM g_y rfl 4 (by decide) (hts (.fieldLink RX10 22 "CallWays2Model" "samples" "[J") (by decide +kernel)) (fun _ h9 => h9) rfl dX10_play_251 ?_
                      refine lv_bipush (v := 40) hx hb dX10_play_254 (by decide) ?_
                      refine lv_iload hx hb dX10_play_256 (lv_at hl 2 rfl) ?_
                      refine lv_imul hx hb dX10_play_258 ?_
                      refine lv_iload hx hb dX10_play_259 (lv_at hl 8 rfl) ?_
                      refine lv_iadd hx hb dX10_play_261 ?_
                      refine lv_iload hx hb dX10_play_262 (lv_at hl 0 rfl) ?_
                      refine lv_iadd hx hb dX10_play_264 ?_
                      refine lv_iload hx hb dX10_play_265 (lv_at hl 1 rfl) ?_
                      refine lv_if_ne (tgt := 290) hx hb dX10_play_267 (by decide) (fun c_267 => ?_) (fun c_267 => ?_)
                      · skip
                        have hsv : (fun z => sBits lane ((fun z => sTurn lane (if wh = 0 then CM9 z else FP.dconst0)) z)) k9 = 0 := (by show sBits lane (sTurn lane (if wh = 0 then CM9 k9 else FP.dconst0)) = 0; rw [if_neg c_267]; exact sT0 lane)
                        refine lv_lconst (v := 0) hx hb dX10_play_290 (by decide) ?_
                        rw [show (40 : Int32) * nI w + nI a9 + nI k9 = nI (40 * w + (a9 + k9)) from k40a w a9 k9]
                        rw [← hsv]
                        refine m_last hx hb hE hM hS g_b5 (in_k40 hw24 (by omega)) dX10_play_291 (fun H locs hM hS => ?_)
                        rw [show vp_updL (va_cpy (fun z => sBits lane ((fun z => sTurn lane (if wh = 0 then CM9 z else FP.dconst0)) z)) SM 0 (40 * w + a9) k9) (nI (40 * w + (a9 + k9))).toNatClampNeg ((fun z => sBits lane ((fun z => sTurn lane (if wh = 0 then CM9 z else FP.dconst0)) z)) k9) = va_cpy (fun z => sBits lane ((fun z => sTurn lane (if wh = 0 then CM9 z else FP.dconst0)) z)) SM 0 (40 * w + a9) (k9 + 1) from by rw [nI_clamp (by omega), ← Nat.add_assoc]; exact (by have := cpy_s (f := (fun z => sBits lane ((fun z => sTurn lane (if wh = 0 then CM9 z else FP.dconst0)) z))) (g := SM) (a := 0) (b := 40 * w + a9) (k := k9); rw [Nat.zero_add] at this; exact this)] at hM
                        have hM : mOK E.1 (mA M sz) (mUp Mi b5 (mJ E 960 (va_cpy (fun z => sBits lane ((fun z => sTurn lane (if wh = 0 then CM9 z else FP.dconst0)) z)) SM 0 (40 * w + a9) (k9 + 1)))) H := hM
                        obtain ⟨M35, eM35⟩ : ∃ z, z = mUp Mi b5 (mJ E 960 (va_cpy (fun z => sBits lane ((fun z => sTurn lane (if wh = 0 then CM9 z else FP.dconst0)) z)) SM 0 (40 * w + a9) (k9 + 1))) := ⟨_, rfl⟩
                        rw [← eM35] at hM
                        have g_y_ : M35 y = some (mO 8 [.ref b1, .ref b2, .ref b3, .ref b4, .ref b5, .int (nI nn), .ref b6, .ref b7, .ref b8, .ref b9, .ref b10, .ref b11, .int (nI nf), .ref b12, .ref b13, .int bd, .int st, .int fa9, .ref b14, .ref b15, .ref b16]) := by rw [eM35]; exact mUp_at (nd_ne hnd 0 5 rfl rfl (by decide)) g_y
                        have g_b1_ : M35 b1 = some (mI E 10 B) := by rw [eM35]; exact mUp_at (nd_ne hnd 1 5 rfl rfl (by decide)) g_b1
                        have g_b2_ : M35 b2 = some (mI E 12 T) := by rw [eM35]; exact mUp_at (nd_ne hnd 2 5 rfl rfl (by decide)) g_b2
                        have g_b3_ : M35 b3 = some (mI E 24 LN) := by rw [eM35]; exact mUp_at (nd_ne hnd 3 5 rfl rfl (by decide)) g_b3
                        have g_b4_ : M35 b4 = some (mI E 24 SZ) := by rw [eM35]; exact mUp_at (nd_ne hnd 4 5 rfl rfl (by decide)) g_b4
                        have g_b6_ : M35 b6 = some (mI E 12 SO) := by rw [eM35]; exact mUp_at (nd_ne hnd 6 5 rfl rfl (by decide)) g_b6
                        have g_b7_ : M35 b7 = some (mI E 48 KN) := by rw [eM35]; exact mUp_at (nd_ne hnd 7 5 rfl rfl (by decide)) g_b7
                        have g_b8_ : M35 b8 = some (mI E 12 PI) := by rw [eM35]; exact mUp_at (nd_ne hnd 8 5 rfl rfl (by decide)) g_b8
                        have g_b9_ : M35 b9 = some (mZ E 12 ON) := by rw [eM35]; exact mUp_at (nd_ne hnd 9 5 rfl rfl (by decide)) g_b9
                        have g_b10_ : M35 b10 = some (mI E 12 (upd PH j (sSt ci kf pi on (tb.map rw) ph le kk).1)) := by rw [eM35]; exact mUp_at (nd_ne hnd 10 5 rfl rfl (by decide)) g_b10
                        have g_b11_ : M35 b11 = some (mDb E 12 (sLE ci LE j (sSt ci kf pi on (tb.map rw) ph le kk).2)) := by rw [eM35]; exact mUp_at (nd_ne hnd 11 5 rfl rfl (by decide)) g_b11
                        have g_b12_ : M35 b12 = some (mI E 8 KD) := by rw [eM35]; exact mUp_at (nd_ne hnd 12 5 rfl rfl (by decide)) g_b12
                        have g_b13_ : M35 b13 = some (mI E 8 NM) := by rw [eM35]; exact mUp_at (nd_ne hnd 13 5 rfl rfl (by decide)) g_b13
                        have g_b14_ : M35 b14 = some (mI E 3 (upd CT 2 (c4 + nI kk))) := by rw [eM35]; exact mUp_at (nd_ne hnd 14 5 rfl rfl (by decide)) g_b14
                        have g_b15_ : M35 b15 = some (mDb E 40 CM9) := by rw [eM35]; exact mUp_at (nd_ne hnd 15 5 rfl rfl (by decide)) g_b15
                        have g_b16_ : M35 b16 = some (mJ E 40 MV) := by rw [eM35]; exact mUp_at (nd_ne hnd 16 5 rfl rfl (by decide)) g_b16
                        have g_y := g_y_
                        have g_b1 := g_b1_
                        have g_b2 := g_b2_
                        have g_b3 := g_b3_
                        have g_b4 := g_b4_
                        have g_b6 := g_b6_
                        have g_b7 := g_b7_
                        have g_b8 := g_b8_
                        have g_b9 := g_b9_
                        have g_b10 := g_b10_
                        have g_b11 := g_b11_
                        have g_b12 := g_b12_
                        have g_b13 := g_b13_
                        have g_b14 := g_b14_
                        have g_b15 := g_b15_
                        have g_b16 := g_b16_
                        have g_b5 : M35 b5 = some (mJ E 960 (va_cpy (fun z => sBits lane ((fun z => sTurn lane (if wh = 0 then CM9 z else FP.dconst0)) z)) SM 0 (40 * w + a9) (k9 + 1))) := by rw [eM35]; exact mUp_self _ _ _
                        have hk : kept (nol y b1 b2 b3 b4 b5 b6 b7 b8 b9 b10 b11 b12 b13 b14 b15 b16) M M35 := (by rw [eM35]; exact hk.up (nol_in 5 rfl))
                        refine lv_iinc (v := ((nI k9) + 1)) (lv' := [(9, .int ((nI k9) + 1)), (8, .int wh), (7, .int (nI w)), (0, .ref y), (1, .int (nI j)), (2, .int wy), (3, .int (nI q)), (4, .int b), (5, .int (nI a9)), (6, .int (nI kn))]) hx hb dX10_play_292 hl (k := 0) rfl rfl (by decide) rfl (fun ls hl => ?_)
                        refine lv_goto (tgt := 243) hx hb dX10_play_295 (by decide) ?_
                        rw [nI_1] at hl
                        exact ih (k9 + 1) M35 ls _ _ (by omega) (by rw [eM35, eMi, mUp_up]) hM hS (lv_sub hl [0, 1, 2, 3, 4, 5, 6, 7, 8, 9] rfl)
                      · skip
                        have hsv : (fun z => sBits lane ((fun z => sTurn lane (if wh = 0 then CM9 z else FP.dconst0)) z)) k9 = sBits lane (sTurn lane (CM9 k9)) := (by show sBits lane (sTurn lane (if wh = 0 then CM9 k9 else FP.dconst0)) = _; rw [if_pos c_267])
                        refine lv_aload_n hx hb dX10_play_270 rfl (lv_at hl 3 rfl) ?_
                        refine m_get (ci := 8) (v := .ref b3) (C := RX10) (T := TX10) (N := 21) hx hb hts in_X10_play_X10 hown hE hM g_y rfl 2 (by decide) (hts (.fieldLink RX10 16 "CallWays2Model" "laneOf" "[I") (by decide +kernel)) (fun _ h9 => h9) rfl dX10_play_271 ?_
                        refine lv_iload hx hb dX10_play_274 (lv_at hl 2 rfl) ?_
                        refine m_iald hx hb hE hM g_b3 (vp_in_nI hw24 (by decide)) dX10_play_276 ?_
                        rw [show LN (nI w).toNatClampNeg = lane from by rw [nI_clamp (by omega), hLn]]
                        refine lv_aload_n hx hb dX10_play_277 rfl (lv_at hl 3 rfl) ?_
                        refine m_get (ci := 8) (v := .ref b15) (C := RX10) (T := TX10) (N := 21) hx hb hts in_X10_play_X10 hown hE hM g_y rfl 19 (by decide) (hts (.fieldLink RX10 55 "CallWays2Model" "come" "[D") (by decide +kernel)) (fun _ h9 => h9) rfl dX10_play_278 ?_
                        refine lv_iload hx hb dX10_play_281 (lv_at hl 0 rfl) ?_
                        refine m_dald hx hb hE hM g_b15 (vp_in_nI (by omega) (by decide)) dX10_play_283 ?_
                        rw [show CM9 (nI k9).toNatClampNeg = CM9 k9 from by rw [nI_clamp (by omega)]]
                        refine m_calll (va_runS (As := [.int lane, .double (CM9 k9)]) (rest := [.int (((40 * (nI w)) + (nI a9)) + (nI k9)), .ref b5]) ⟨hx, hb, hml, hown, hts⟩ (c_X10_cast l E Mi H.size lane (CM9 k9) (by rw [hCM c_267 k9 (by omega)]; exact hfin k9) hlane) (va_cwS 2 hts gX10_play_X10_cast rfl rfl rfl (by decide +kernel) ⟨Nat.le_of_ble_eq_true rfl, Nat.le_of_ble_eq_true rfl⟩) (m_preS hE hM) rfl rfl hl.1 rfl (lv_room (Nat.le_of_ble_eq_true rfl)) dX10_play_284 ⟨Nat.le_of_ble_eq_true rfl, Nat.le_of_ble_eq_true rfl⟩) hM hS hA (fun r8 u H locs hw hM hS => ?_)
                        obtain ⟨e_r8, eu⟩ := hw
                        rw [eu] at hM
                        subst e_r8
                        refine lv_goto (tgt := 291) hx hb dX10_play_287 (by decide) ?_
                        rw [show (40 : Int32) * nI w + nI a9 + nI k9 = nI (40 * w + (a9 + k9)) from k40a w a9 k9]
                        rw [← hsv]
                        refine m_last hx hb hE hM hS g_b5 (in_k40 hw24 (by omega)) dX10_play_291 (fun H locs hM hS => ?_)
                        rw [show vp_updL (va_cpy (fun z => sBits lane ((fun z => sTurn lane (if wh = 0 then CM9 z else FP.dconst0)) z)) SM 0 (40 * w + a9) k9) (nI (40 * w + (a9 + k9))).toNatClampNeg ((fun z => sBits lane ((fun z => sTurn lane (if wh = 0 then CM9 z else FP.dconst0)) z)) k9) = va_cpy (fun z => sBits lane ((fun z => sTurn lane (if wh = 0 then CM9 z else FP.dconst0)) z)) SM 0 (40 * w + a9) (k9 + 1) from by rw [nI_clamp (by omega), ← Nat.add_assoc]; exact (by have := cpy_s (f := (fun z => sBits lane ((fun z => sTurn lane (if wh = 0 then CM9 z else FP.dconst0)) z))) (g := SM) (a := 0) (b := 40 * w + a9) (k := k9); rw [Nat.zero_add] at this; exact this)] at hM
                        have hM : mOK E.1 (mA M sz) (mUp Mi b5 (mJ E 960 (va_cpy (fun z => sBits lane ((fun z => sTurn lane (if wh = 0 then CM9 z else FP.dconst0)) z)) SM 0 (40 * w + a9) (k9 + 1)))) H := hM
                        obtain ⟨M36, eM36⟩ : ∃ z, z = mUp Mi b5 (mJ E 960 (va_cpy (fun z => sBits lane ((fun z => sTurn lane (if wh = 0 then CM9 z else FP.dconst0)) z)) SM 0 (40 * w + a9) (k9 + 1))) := ⟨_, rfl⟩
                        rw [← eM36] at hM
                        have g_y_ : M36 y = some (mO 8 [.ref b1, .ref b2, .ref b3, .ref b4, .ref b5, .int (nI nn), .ref b6, .ref b7, .ref b8, .ref b9, .ref b10, .ref b11, .int (nI nf), .ref b12, .ref b13, .int bd, .int st, .int fa9, .ref b14, .ref b15, .ref b16]) := by rw [eM36]; exact mUp_at (nd_ne hnd 0 5 rfl rfl (by decide)) g_y
                        have g_b1_ : M36 b1 = some (mI E 10 B) := by rw [eM36]; exact mUp_at (nd_ne hnd 1 5 rfl rfl (by decide)) g_b1
                        have g_b2_ : M36 b2 = some (mI E 12 T) := by rw [eM36]; exact mUp_at (nd_ne hnd 2 5 rfl rfl (by decide)) g_b2
                        have g_b3_ : M36 b3 = some (mI E 24 LN) := by rw [eM36]; exact mUp_at (nd_ne hnd 3 5 rfl rfl (by decide)) g_b3
                        have g_b4_ : M36 b4 = some (mI E 24 SZ) := by rw [eM36]; exact mUp_at (nd_ne hnd 4 5 rfl rfl (by decide)) g_b4
                        have g_b6_ : M36 b6 = some (mI E 12 SO) := by rw [eM36]; exact mUp_at (nd_ne hnd 6 5 rfl rfl (by decide)) g_b6
                        have g_b7_ : M36 b7 = some (mI E 48 KN) := by rw [eM36]; exact mUp_at (nd_ne hnd 7 5 rfl rfl (by decide)) g_b7
                        have g_b8_ : M36 b8 = some (mI E 12 PI) := by rw [eM36]; exact mUp_at (nd_ne hnd 8 5 rfl rfl (by decide)) g_b8
                        have g_b9_ : M36 b9 = some (mZ E 12 ON) := by rw [eM36]; exact mUp_at (nd_ne hnd 9 5 rfl rfl (by decide)) g_b9
                        have g_b10_ : M36 b10 = some (mI E 12 (upd PH j (sSt ci kf pi on (tb.map rw) ph le kk).1)) := by rw [eM36]; exact mUp_at (nd_ne hnd 10 5 rfl rfl (by decide)) g_b10
                        have g_b11_ : M36 b11 = some (mDb E 12 (sLE ci LE j (sSt ci kf pi on (tb.map rw) ph le kk).2)) := by rw [eM36]; exact mUp_at (nd_ne hnd 11 5 rfl rfl (by decide)) g_b11
                        have g_b12_ : M36 b12 = some (mI E 8 KD) := by rw [eM36]; exact mUp_at (nd_ne hnd 12 5 rfl rfl (by decide)) g_b12
                        have g_b13_ : M36 b13 = some (mI E 8 NM) := by rw [eM36]; exact mUp_at (nd_ne hnd 13 5 rfl rfl (by decide)) g_b13
                        have g_b14_ : M36 b14 = some (mI E 3 (upd CT 2 (c4 + nI kk))) := by rw [eM36]; exact mUp_at (nd_ne hnd 14 5 rfl rfl (by decide)) g_b14
                        have g_b15_ : M36 b15 = some (mDb E 40 CM9) := by rw [eM36]; exact mUp_at (nd_ne hnd 15 5 rfl rfl (by decide)) g_b15
                        have g_b16_ : M36 b16 = some (mJ E 40 MV) := by rw [eM36]; exact mUp_at (nd_ne hnd 16 5 rfl rfl (by decide)) g_b16
                        have g_y := g_y_
                        have g_b1 := g_b1_
                        have g_b2 := g_b2_
                        have g_b3 := g_b3_
                        have g_b4 := g_b4_
                        have g_b6 := g_b6_
                        have g_b7 := g_b7_
                        have g_b8 := g_b8_
                        have g_b9 := g_b9_
                        have g_b10 := g_b10_
                        have g_b11 := g_b11_
                        have g_b12 := g_b12_
                        have g_b13 := g_b13_
                        have g_b14 := g_b14_
                        have g_b15 := g_b15_
                        have g_b16 := g_b16_
                        have g_b5 : M36 b5 = some (mJ E 960 (va_cpy (fun z => sBits lane ((fun z => sTurn lane (if wh = 0 then CM9 z else FP.dconst0)) z)) SM 0 (40 * w + a9) (k9 + 1))) := by rw [eM36]; exact mUp_self _ _ _
                        have hk : kept (nol y b1 b2 b3 b4 b5 b6 b7 b8 b9 b10 b11 b12 b13 b14 b15 b16) M M36 := (by rw [eM36]; exact hk.up (nol_in 5 rfl))
                        refine lv_iinc (v := ((nI k9) + 1)) (lv' := [(9, .int ((nI k9) + 1)), (8, .int wh), (7, .int (nI w)), (0, .ref y), (1, .int (nI j)), (2, .int wy), (3, .int (nI q)), (4, .int b), (5, .int (nI a9)), (6, .int (nI kn))]) hx hb dX10_play_292 hl (k := 0) rfl rfl (by decide) rfl (fun ls hl => ?_)
                        refine lv_goto (tgt := 243) hx hb dX10_play_295 (by decide) ?_
                        rw [nI_1] at hl
                        exact ih (k9 + 1) M36 ls _ _ (by omega) (by rw [eM36, eMi, mUp_up]) hM hS (lv_sub hl [0, 1, 2, 3, 4, 5, 6, 7, 8, 9] rfl)
                  refine lv_iconst (v := 0) hx hb dX10_play_240 (by decide) ?_
                  refine lv_istore (lv' := [(9, .int 0), (8, .int wh), (7, .int (nI w)), (0, .ref y), (1, .int (nI j)), (2, .int wy), (3, .int (nI q)), (4, .int b), (5, .int (nI a9)), (6, .int (nI kn))]) hx hb dX10_play_241 hl (by decide) rfl (fun ls hl => ?_)
                  exact loop2 kn 0 M0 ls _ _ (by omega) (by rw [cpy_0]; exact (mUp_id h0_b5).symm) hM hS (lv_sub hl [0, 1, 2, 3, 4, 5, 6, 7, 8, 9] rfl)
                have loop1 : ∀ (n9 : Nat) (k9 : Nat) (CM9 : Nat → UInt64) (fa9 : Int32) (Mi : mMem) (ls : Array Slot) (H : Heap) (locs : List Loc), k9 + n9 = kn → sGo ci kf pi on (tb.map rw) ph le fu 0 kn = sGo ci kf pi on (tb.map rw) ph le fu k9 n9 → (∀ z, z < k9 → CM9 z = psO fu (sSm ci kf pi on (tb.map rw) ph le z).2.1) → Mi = pen M y b10 b11 b14 b15 (mO 8 [.ref b1, .ref b2, .ref b3, .ref b4, .ref b5, .int (nI nn), .ref b6, .ref b7, .ref b8, .ref b9, .ref b10, .ref b11, .int (nI nf), .ref b12, .ref b13, .int bd, .int st, .int fa9, .ref b14, .ref b15, .ref b16]) (mI E 12 (upd PH j (sSt ci kf pi on (tb.map rw) ph le k9).1)) (mDb E 12 (sLE ci LE j (sSt ci kf pi on (tb.map rw) ph le k9).2)) (mI E 3 (upd CT 2 (c4 + nI k9))) (mDb E 40 CM9) → mOK E.1 (mA M sz) Mi H → va_S (mA M sz) s.heap H locs → lv_has ls 10 [(9, .int (nI k9)), (8, .int 0), (7, .int (nI w)), (0, .ref y), (1, .int (nI j)), (2, .int wy), (3, .int (nI q)), (4, .int b), (5, .int (nI a9)), (6, .int (nI kn))] → W p l e ({ frames := 4, cells := 0, slots := 0, locals := 97 } : Room) s m #[.ref y, .int (nI j), .int wy, .int (nI q), .int b, .int (nI a9), .int (nI kn)] below meth c H locs (0) (0) (MQ below (mQi E M sz (fun r u => r = aPlay (nn, ins, nf, fn, bk, rw, bd, st, c2, c3, c4) (nI j) wy (nI q) b (nI a9) (nI kn) ∧ mR E u y b1 b2 b3 b4 b5 b6 b7 b8 b9 b10 b11 b12 b13 b14 b15 b16 (nPlay (nn, ins, nf, fn, bk, rw, bd, st, c2, c3, c4) (nI j) wy (nI q) b (nI a9) (nI kn)) ∧ kept (nol y b1 b2 b3 b4 b5 b6 b7 b8 b9 b10 b11 b12 b13 b14 b15 b16) M u)) #[.ref y, .int (nI j), .int wy, .int (nI q), .int b, .int (nI a9), .int (nI kn)] s (0) (0) (mA M sz)) (F0 m 163 ls []) := by
                  intro n9
                  induction n9 with
                  | zero =>
                    intro k9 CM9 fa9 Mi ls H locs hk9 hsg hCM eMi hM hS hl
                    have g_b1 : Mi b1 = some (mI E 10 B) := by rw [eMi]; exact pen_ne g0_b1 (nd_ne hnd 1 0 rfl rfl (by decide)) (nd_ne hnd 1 10 rfl rfl (by decide)) (nd_ne hnd 1 11 rfl rfl (by decide)) (nd_ne hnd 1 14 rfl rfl (by decide)) (nd_ne hnd 1 15 rfl rfl (by decide))
                    have g_b2 : Mi b2 = some (mI E 12 T) := by rw [eMi]; exact pen_ne g0_b2 (nd_ne hnd 2 0 rfl rfl (by decide)) (nd_ne hnd 2 10 rfl rfl (by decide)) (nd_ne hnd 2 11 rfl rfl (by decide)) (nd_ne hnd 2 14 rfl rfl (by decide)) (nd_ne hnd 2 15 rfl rfl (by decide))
                    have g_b3 : Mi b3 = some (mI E 24 LN) := by rw [eMi]; exact pen_ne g0_b3 (nd_ne hnd 3 0 rfl rfl (by decide)) (nd_ne hnd 3 10 rfl rfl (by decide)) (nd_ne hnd 3 11 rfl rfl (by decide)) (nd_ne hnd 3 14 rfl rfl (by decide)) (nd_ne hnd 3 15 rfl rfl (by decide))
                    have g_b4 : Mi b4 = some (mI E 24 SZ) := by rw [eMi]; exact pen_ne g0_b4 (nd_ne hnd 4 0 rfl rfl (by decide)) (nd_ne hnd 4 10 rfl rfl (by decide)) (nd_ne hnd 4 11 rfl rfl (by decide)) (nd_ne hnd 4 14 rfl rfl (by decide)) (nd_ne hnd 4 15 rfl rfl (by decide))
                    have g_b5 : Mi b5 = some (mJ E 960 SM) := by rw [eMi]; exact pen_ne g0_b5 (nd_ne hnd 5 0 rfl rfl (by decide)) (nd_ne hnd 5 10 rfl rfl (by decide)) (nd_ne hnd 5 11 rfl rfl (by decide)) (nd_ne hnd 5 14 rfl rfl (by decide)) (nd_ne hnd 5 15 rfl rfl (by decide))
                    have g_b6 : Mi b6 = some (mI E 12 SO) := by rw [eMi]; exact pen_ne g0_b6 (nd_ne hnd 6 0 rfl rfl (by decide)) (nd_ne hnd 6 10 rfl rfl (by decide)) (nd_ne hnd 6 11 rfl rfl (by decide)) (nd_ne hnd 6 14 rfl rfl (by decide)) (nd_ne hnd 6 15 rfl rfl (by decide))
                    have g_b7 : Mi b7 = some (mI E 48 KN) := by rw [eMi]; exact pen_ne g0_b7 (nd_ne hnd 7 0 rfl rfl (by decide)) (nd_ne hnd 7 10 rfl rfl (by decide)) (nd_ne hnd 7 11 rfl rfl (by decide)) (nd_ne hnd 7 14 rfl rfl (by decide)) (nd_ne hnd 7 15 rfl rfl (by decide))
                    have g_b8 : Mi b8 = some (mI E 12 PI) := by rw [eMi]; exact pen_ne g0_b8 (nd_ne hnd 8 0 rfl rfl (by decide)) (nd_ne hnd 8 10 rfl rfl (by decide)) (nd_ne hnd 8 11 rfl rfl (by decide)) (nd_ne hnd 8 14 rfl rfl (by decide)) (nd_ne hnd 8 15 rfl rfl (by decide))
                    have g_b9 : Mi b9 = some (mZ E 12 ON) := by rw [eMi]; exact pen_ne g0_b9 (nd_ne hnd 9 0 rfl rfl (by decide)) (nd_ne hnd 9 10 rfl rfl (by decide)) (nd_ne hnd 9 11 rfl rfl (by decide)) (nd_ne hnd 9 14 rfl rfl (by decide)) (nd_ne hnd 9 15 rfl rfl (by decide))
                    have g_b12 : Mi b12 = some (mI E 8 KD) := by rw [eMi]; exact pen_ne g0_b12 (nd_ne hnd 12 0 rfl rfl (by decide)) (nd_ne hnd 12 10 rfl rfl (by decide)) (nd_ne hnd 12 11 rfl rfl (by decide)) (nd_ne hnd 12 14 rfl rfl (by decide)) (nd_ne hnd 12 15 rfl rfl (by decide))
                    have g_b13 : Mi b13 = some (mI E 8 NM) := by rw [eMi]; exact pen_ne g0_b13 (nd_ne hnd 13 0 rfl rfl (by decide)) (nd_ne hnd 13 10 rfl rfl (by decide)) (nd_ne hnd 13 11 rfl rfl (by decide)) (nd_ne hnd 13 14 rfl rfl (by decide)) (nd_ne hnd 13 15 rfl rfl (by decide))
                    have g_b16 : Mi b16 = some (mJ E 40 MV) := by rw [eMi]; exact pen_ne g0_b16 (nd_ne hnd 16 0 rfl rfl (by decide)) (nd_ne hnd 16 10 rfl rfl (by decide)) (nd_ne hnd 16 11 rfl rfl (by decide)) (nd_ne hnd 16 14 rfl rfl (by decide)) (nd_ne hnd 16 15 rfl rfl (by decide))
                    have g_y : Mi y = some (mO 8 [.ref b1, .ref b2, .ref b3, .ref b4, .ref b5, .int (nI nn), .ref b6, .ref b7, .ref b8, .ref b9, .ref b10, .ref b11, .int (nI nf), .ref b12, .ref b13, .int bd, .int st, .int fa9, .ref b14, .ref b15, .ref b16]) := by rw [eMi]; exact mUp_at (nd_ne hnd 0 15 rfl rfl (by decide)) (mUp_at (nd_ne hnd 0 14 rfl rfl (by decide)) (tri_gp (nd_ne hnd 0 10 rfl rfl (by decide)) (nd_ne hnd 0 11 rfl rfl (by decide))))
                    have g_b10 : Mi b10 = some (mI E 12 (upd PH j (sSt ci kf pi on (tb.map rw) ph le k9).1)) := by rw [eMi]; exact mUp_at (nd_ne hnd 10 15 rfl rfl (by decide)) (mUp_at (nd_ne hnd 10 14 rfl rfl (by decide)) (tri_gx (nd_ne hnd 10 11 rfl rfl (by decide))))
                    have g_b11 : Mi b11 = some (mDb E 12 (sLE ci LE j (sSt ci kf pi on (tb.map rw) ph le k9).2)) := by rw [eMi]; exact mUp_at (nd_ne hnd 11 15 rfl rfl (by decide)) (mUp_at (nd_ne hnd 11 14 rfl rfl (by decide)) tri_ga)
                    have g_b14 : Mi b14 = some (mI E 3 (upd CT 2 (c4 + nI k9))) := by rw [eMi]; exact mUp_at (nd_ne hnd 14 15 rfl rfl (by decide)) (mUp_self _ _ _)
                    have g_b15 : Mi b15 = some (mDb E 40 CM9) := by rw [eMi]; exact mUp_self _ _ _
                    have hk : kept (nol y b1 b2 b3 b4 b5 b6 b7 b8 b9 b10 b11 b12 b13 b14 b15 b16) M Mi := (by rw [eMi]; exact ((kept.rf.tri (nol_in 0 rfl) (nol_in 10 rfl) (nol_in 11 rfl)).up (nol_in 14 rfl)).up (nol_in 15 rfl))
                    refine lv_iload hx hb dX10_play_163 (lv_at hl 0 rfl) ?_
                    refine lv_iload hx hb dX10_play_165 (lv_at hl 9 rfl) ?_
                    refine lv_icmp_ge (tgt := 240) hx hb dX10_play_167 (by decide) (fun _ => ?_) (fun h9 => False.elim (by revert h9; exact (fun h => h (nI_le (by omega) (by omega)))))
                    exact mid 0 k9 CM9 fa9 Mi ls _ _ (by rw [hsg]; rfl) (Or.inl rfl) (fun _ z hz => hCM z (by omega)) eMi hM hS (lv_sub hl [1, 2, 3, 4, 5, 6, 7, 8, 9] rfl)
                  | succ n9 ih =>
                    intro k9 CM9 fa9 Mi ls H locs hk9 hsg hCM eMi hM hS hl
                    have g_b1 : Mi b1 = some (mI E 10 B) := by rw [eMi]; exact pen_ne g0_b1 (nd_ne hnd 1 0 rfl rfl (by decide)) (nd_ne hnd 1 10 rfl rfl (by decide)) (nd_ne hnd 1 11 rfl rfl (by decide)) (nd_ne hnd 1 14 rfl rfl (by decide)) (nd_ne hnd 1 15 rfl rfl (by decide))
                    have g_b2 : Mi b2 = some (mI E 12 T) := by rw [eMi]; exact pen_ne g0_b2 (nd_ne hnd 2 0 rfl rfl (by decide)) (nd_ne hnd 2 10 rfl rfl (by decide)) (nd_ne hnd 2 11 rfl rfl (by decide)) (nd_ne hnd 2 14 rfl rfl (by decide)) (nd_ne hnd 2 15 rfl rfl (by decide))
                    have g_b3 : Mi b3 = some (mI E 24 LN) := by rw [eMi]; exact pen_ne g0_b3 (nd_ne hnd 3 0 rfl rfl (by decide)) (nd_ne hnd 3 10 rfl rfl (by decide)) (nd_ne hnd 3 11 rfl rfl (by decide)) (nd_ne hnd 3 14 rfl rfl (by decide)) (nd_ne hnd 3 15 rfl rfl (by decide))
                    have g_b4 : Mi b4 = some (mI E 24 SZ) := by rw [eMi]; exact pen_ne g0_b4 (nd_ne hnd 4 0 rfl rfl (by decide)) (nd_ne hnd 4 10 rfl rfl (by decide)) (nd_ne hnd 4 11 rfl rfl (by decide)) (nd_ne hnd 4 14 rfl rfl (by decide)) (nd_ne hnd 4 15 rfl rfl (by decide))
                    have g_b5 : Mi b5 = some (mJ E 960 SM) := by rw [eMi]; exact pen_ne g0_b5 (nd_ne hnd 5 0 rfl rfl (by decide)) (nd_ne hnd 5 10 rfl rfl (by decide)) (nd_ne hnd 5 11 rfl rfl (by decide)) (nd_ne hnd 5 14 rfl rfl (by decide)) (nd_ne hnd 5 15 rfl rfl (by decide))
                    have g_b6 : Mi b6 = some (mI E 12 SO) := by rw [eMi]; exact pen_ne g0_b6 (nd_ne hnd 6 0 rfl rfl (by decide)) (nd_ne hnd 6 10 rfl rfl (by decide)) (nd_ne hnd 6 11 rfl rfl (by decide)) (nd_ne hnd 6 14 rfl rfl (by decide)) (nd_ne hnd 6 15 rfl rfl (by decide))
                    have g_b7 : Mi b7 = some (mI E 48 KN) := by rw [eMi]; exact pen_ne g0_b7 (nd_ne hnd 7 0 rfl rfl (by decide)) (nd_ne hnd 7 10 rfl rfl (by decide)) (nd_ne hnd 7 11 rfl rfl (by decide)) (nd_ne hnd 7 14 rfl rfl (by decide)) (nd_ne hnd 7 15 rfl rfl (by decide))
                    have g_b8 : Mi b8 = some (mI E 12 PI) := by rw [eMi]; exact pen_ne g0_b8 (nd_ne hnd 8 0 rfl rfl (by decide)) (nd_ne hnd 8 10 rfl rfl (by decide)) (nd_ne hnd 8 11 rfl rfl (by decide)) (nd_ne hnd 8 14 rfl rfl (by decide)) (nd_ne hnd 8 15 rfl rfl (by decide))
                    have g_b9 : Mi b9 = some (mZ E 12 ON) := by rw [eMi]; exact pen_ne g0_b9 (nd_ne hnd 9 0 rfl rfl (by decide)) (nd_ne hnd 9 10 rfl rfl (by decide)) (nd_ne hnd 9 11 rfl rfl (by decide)) (nd_ne hnd 9 14 rfl rfl (by decide)) (nd_ne hnd 9 15 rfl rfl (by decide))
                    have g_b12 : Mi b12 = some (mI E 8 KD) := by rw [eMi]; exact pen_ne g0_b12 (nd_ne hnd 12 0 rfl rfl (by decide)) (nd_ne hnd 12 10 rfl rfl (by decide)) (nd_ne hnd 12 11 rfl rfl (by decide)) (nd_ne hnd 12 14 rfl rfl (by decide)) (nd_ne hnd 12 15 rfl rfl (by decide))
                    have g_b13 : Mi b13 = some (mI E 8 NM) := by rw [eMi]; exact pen_ne g0_b13 (nd_ne hnd 13 0 rfl rfl (by decide)) (nd_ne hnd 13 10 rfl rfl (by decide)) (nd_ne hnd 13 11 rfl rfl (by decide)) (nd_ne hnd 13 14 rfl rfl (by decide)) (nd_ne hnd 13 15 rfl rfl (by decide))
                    have g_b16 : Mi b16 = some (mJ E 40 MV) := by rw [eMi]; exact pen_ne g0_b16 (nd_ne hnd 16 0 rfl rfl (by decide)) (nd_ne hnd 16 10 rfl rfl (by decide)) (nd_ne hnd 16 11 rfl rfl (by decide)) (nd_ne hnd 16 14 rfl rfl (by decide)) (nd_ne hnd 16 15 rfl rfl (by decide))
                    have g_y : Mi y = some (mO 8 [.ref b1, .ref b2, .ref b3, .ref b4, .ref b5, .int (nI nn), .ref b6, .ref b7, .ref b8, .ref b9, .ref b10, .ref b11, .int (nI nf), .ref b12, .ref b13, .int bd, .int st, .int fa9, .ref b14, .ref b15, .ref b16]) := by rw [eMi]; exact mUp_at (nd_ne hnd 0 15 rfl rfl (by decide)) (mUp_at (nd_ne hnd 0 14 rfl rfl (by decide)) (tri_gp (nd_ne hnd 0 10 rfl rfl (by decide)) (nd_ne hnd 0 11 rfl rfl (by decide))))
                    have g_b10 : Mi b10 = some (mI E 12 (upd PH j (sSt ci kf pi on (tb.map rw) ph le k9).1)) := by rw [eMi]; exact mUp_at (nd_ne hnd 10 15 rfl rfl (by decide)) (mUp_at (nd_ne hnd 10 14 rfl rfl (by decide)) (tri_gx (nd_ne hnd 10 11 rfl rfl (by decide))))
                    have g_b11 : Mi b11 = some (mDb E 12 (sLE ci LE j (sSt ci kf pi on (tb.map rw) ph le k9).2)) := by rw [eMi]; exact mUp_at (nd_ne hnd 11 15 rfl rfl (by decide)) (mUp_at (nd_ne hnd 11 14 rfl rfl (by decide)) tri_ga)
                    have g_b14 : Mi b14 = some (mI E 3 (upd CT 2 (c4 + nI k9))) := by rw [eMi]; exact mUp_at (nd_ne hnd 14 15 rfl rfl (by decide)) (mUp_self _ _ _)
                    have g_b15 : Mi b15 = some (mDb E 40 CM9) := by rw [eMi]; exact mUp_self _ _ _
                    have hk : kept (nol y b1 b2 b3 b4 b5 b6 b7 b8 b9 b10 b11 b12 b13 b14 b15 b16) M Mi := (by rw [eMi]; exact ((kept.rf.tri (nol_in 0 rfl) (nol_in 10 rfl) (nol_in 11 rfl)).up (nol_in 14 rfl)).up (nol_in 15 rfl))
                    refine lv_iload hx hb dX10_play_163 (lv_at hl 0 rfl) ?_
                    refine lv_iload hx hb dX10_play_165 (lv_at hl 9 rfl) ?_
                    refine lv_icmp_ge (tgt := 240) hx hb dX10_play_167 (by decide) (fun h9 => False.elim (by revert h9; exact (fun h => absurd h (nI_ge (by omega) (by omega))))) (fun _ => ?_)
                    refine lv_iload hx hb dX10_play_170 (lv_at hl 1 rfl) ?_
                    refine lv_if_ne (tgt := 240) hx hb dX10_play_172 (by decide) (fun h9 => False.elim (by revert h9; exact (fun h => h rfl))) (fun _ => ?_)
                    refine lv_aload_n hx hb dX10_play_175 rfl (lv_at hl 3 rfl) ?_
                    refine m_get (ci := 8) (v := .ref b14) (C := RX10) (T := TX10) (N := 21) hx hb hts in_X10_play_X10 hown hE hM g_y rfl 18 (by decide) (hts (.fieldLink RX10 52 "CallWays2Model" "counts" "[I") (by decide +kernel)) (fun _ h9 => h9) rfl dX10_play_176 ?_
                    refine lv_iconst (v := 2) hx hb dX10_play_179 (by decide) ?_
                    refine lv_dup2_11 hx hb dX10_play_180 rfl rfl ?_
                    refine m_iald hx hb hE hM g_b14 in3_2 dX10_play_181 ?_
                    rw [show (upd CT 2 (c4 + nI k9)) (2 : Int32).toNatClampNeg = c4 + nI k9 from by show upd CT 2 (c4 + nI k9) 2 = _; exact upd_s]
                    refine lv_iconst (v := 1) hx hb dX10_play_182 (by decide) ?_
                    refine lv_iadd hx hb dX10_play_183 ?_
                    refine m_iast hx hb hE hM hS g_b14 in3_2 dX10_play_184 (fun H locs hM hS => ?_)
                    rw [show upd (upd CT 2 (c4 + nI k9)) (2 : Int32).toNatClampNeg ((c4 + nI k9) + 1) = upd CT 2 (c4 + nI (k9 + 1)) from by show upd (upd CT 2 (c4 + nI k9)) 2 (c4 + nI k9 + 1) = _; rw [upd_up, c4_add]] at hM
                    have hM : mOK E.1 (mA M sz) (mUp Mi b14 (mI E 3 (upd CT 2 (c4 + nI (k9 + 1))))) H := hM
                    obtain ⟨M37, eM37⟩ : ∃ z, z = mUp Mi b14 (mI E 3 (upd CT 2 (c4 + nI (k9 + 1)))) := ⟨_, rfl⟩
                    rw [← eM37] at hM
                    have g_y_ : M37 y = some (mO 8 [.ref b1, .ref b2, .ref b3, .ref b4, .ref b5, .int (nI nn), .ref b6, .ref b7, .ref b8, .ref b9, .ref b10, .ref b11, .int (nI nf), .ref b12, .ref b13, .int bd, .int st, .int fa9, .ref b14, .ref b15, .ref b16]) := by rw [eM37]; exact mUp_at (nd_ne hnd 0 14 rfl rfl (by decide)) g_y
                    have g_b1_ : M37 b1 = some (mI E 10 B) := by rw [eM37]; exact mUp_at (nd_ne hnd 1 14 rfl rfl (by decide)) g_b1
                    have g_b2_ : M37 b2 = some (mI E 12 T) := by rw [eM37]; exact mUp_at (nd_ne hnd 2 14 rfl rfl (by decide)) g_b2
                    have g_b3_ : M37 b3 = some (mI E 24 LN) := by rw [eM37]; exact mUp_at (nd_ne hnd 3 14 rfl rfl (by decide)) g_b3
                    have g_b4_ : M37 b4 = some (mI E 24 SZ) := by rw [eM37]; exact mUp_at (nd_ne hnd 4 14 rfl rfl (by decide)) g_b4
                    have g_b5_ : M37 b5 = some (mJ E 960 SM) := by rw [eM37]; exact mUp_at (nd_ne hnd 5 14 rfl rfl (by decide)) g_b5
                    have g_b6_ : M37 b6 = some (mI E 12 SO) := by rw [eM37]; exact mUp_at (nd_ne hnd 6 14 rfl rfl (by decide)) g_b6
                    have g_b7_ : M37 b7 = some (mI E 48 KN) := by rw [eM37]; exact mUp_at (nd_ne hnd 7 14 rfl rfl (by decide)) g_b7
                    have g_b8_ : M37 b8 = some (mI E 12 PI) := by rw [eM37]; exact mUp_at (nd_ne hnd 8 14 rfl rfl (by decide)) g_b8
                    have g_b9_ : M37 b9 = some (mZ E 12 ON) := by rw [eM37]; exact mUp_at (nd_ne hnd 9 14 rfl rfl (by decide)) g_b9
                    have g_b10_ : M37 b10 = some (mI E 12 (upd PH j (sSt ci kf pi on (tb.map rw) ph le k9).1)) := by rw [eM37]; exact mUp_at (nd_ne hnd 10 14 rfl rfl (by decide)) g_b10
                    have g_b11_ : M37 b11 = some (mDb E 12 (sLE ci LE j (sSt ci kf pi on (tb.map rw) ph le k9).2)) := by rw [eM37]; exact mUp_at (nd_ne hnd 11 14 rfl rfl (by decide)) g_b11
                    have g_b12_ : M37 b12 = some (mI E 8 KD) := by rw [eM37]; exact mUp_at (nd_ne hnd 12 14 rfl rfl (by decide)) g_b12
                    have g_b13_ : M37 b13 = some (mI E 8 NM) := by rw [eM37]; exact mUp_at (nd_ne hnd 13 14 rfl rfl (by decide)) g_b13
                    have g_b15_ : M37 b15 = some (mDb E 40 CM9) := by rw [eM37]; exact mUp_at (nd_ne hnd 15 14 rfl rfl (by decide)) g_b15
                    have g_b16_ : M37 b16 = some (mJ E 40 MV) := by rw [eM37]; exact mUp_at (nd_ne hnd 16 14 rfl rfl (by decide)) g_b16
                    have g_y := g_y_
                    have g_b1 := g_b1_
                    have g_b2 := g_b2_
                    have g_b3 := g_b3_
                    have g_b4 := g_b4_
                    have g_b5 := g_b5_
                    have g_b6 := g_b6_
                    have g_b7 := g_b7_
                    have g_b8 := g_b8_
                    have g_b9 := g_b9_
                    have g_b10 := g_b10_
                    have g_b11 := g_b11_
                    have g_b12 := g_b12_
                    have g_b13 := g_b13_
                    have g_b15 := g_b15_
                    have g_b16 := g_b16_
                    have g_b14 : M37 b14 = some (mI E 3 (upd CT 2 (c4 + nI (k9 + 1)))) := by rw [eM37]; exact mUp_self _ _ _
                    have hk : kept (nol y b1 b2 b3 b4 b5 b6 b7 b8 b9 b10 b11 b12 b13 b14 b15 b16) M M37 := (by rw [eM37]; exact hk.up (nol_in 14 rfl))
                    refine lv_aload_n hx hb dX10_play_185 rfl (lv_at hl 3 rfl) ?_
                    refine m_get (ci := 8) (v := .ref b15) (C := RX10) (T := TX10) (N := 21) hx hb hts in_X10_play_X10 hown hE hM g_y rfl 19 (by decide) (hts (.fieldLink RX10 55 "CallWays2Model" "come" "[D") (by decide +kernel)) (fun _ h9 => h9) rfl dX10_play_186 ?_
                    refine lv_iload hx hb dX10_play_189 (lv_at hl 0 rfl) ?_
                    refine lv_aload_n hx hb dX10_play_191 rfl (lv_at hl 3 rfl) ?_
                    refine lv_iload_n hx hb dX10_play_192 rfl (lv_at hl 4 rfl) ?_
                    refine m_calld (va_runV (As := [.int (nI j)]) (rest := [.int (nI k9), .ref b15]) ⟨hx, hb, hml, hown, hts⟩ (c_X10_sample l E M37 H.size y b1 b2 b3 b4 b5 b6 b7 b8 b9 b10 b11 b12 b13 b14 b15 b16 (nI nn) (nI nf) bd st fa9 T LN SZ SM SO KN PI ON (upd PH j (sSt ci kf pi on (tb.map rw) ph le k9).1) (sLE ci LE j (sSt ci kf pi on (tb.map rw) ph le k9).2) j (by omega) ci hci kf pi on (sSt ci kf pi on (tb.map rw) ph le k9).1 (sSt ci kf pi on (tb.map rw) ph le k9).2 tb rw (hSo hj) hKn hPi hOn upd_s (fun z => sLE_s z) (hst k9) (by rw [hT j (by omega), htbj]) hTb (nd_ne hnd 2 10 rfl rfl (by decide)) (nd_ne hnd 6 10 rfl rfl (by decide)) (nd_ne hnd 8 10 rfl rfl (by decide)) (nd_ne hnd 9 10 rfl rfl (by decide)) g_y g_b2 g_b3 g_b4 g_b5 g_b6 g_b7 g_b8 g_b9 g_b10 g_b11) (cwV 1 hts gX10_play_X10_sample rfl rfl rfl (by decide +kernel) ⟨Nat.le_of_ble_eq_true rfl, Nat.le_of_ble_eq_true rfl⟩) (m_preV hE hM g_y rfl) rfl rfl hl.1 rfl (lv_room (Nat.le_of_ble_eq_true rfl)) dX10_play_193 ⟨Nat.le_of_ble_eq_true rfl, Nat.le_of_ble_eq_true rfl⟩) hM hS hA (fun r6 M38 H locs hw hM hS => ?_)
                    obtain ⟨e_r6, eM38⟩ := hw
                    subst e_r6
                    have g_b1_ : M38 b1 = some (mI E 10 B) := by rw [eM38]; exact tri_ne g_b1 (nd_ne hnd 1 0 rfl rfl (by decide)) (nd_ne hnd 1 10 rfl rfl (by decide)) (nd_ne hnd 1 11 rfl rfl (by decide))
                    have g_b2_ : M38 b2 = some (mI E 12 T) := by rw [eM38]; exact tri_ne g_b2 (nd_ne hnd 2 0 rfl rfl (by decide)) (nd_ne hnd 2 10 rfl rfl (by decide)) (nd_ne hnd 2 11 rfl rfl (by decide))
                    have g_b3_ : M38 b3 = some (mI E 24 LN) := by rw [eM38]; exact tri_ne g_b3 (nd_ne hnd 3 0 rfl rfl (by decide)) (nd_ne hnd 3 10 rfl rfl (by decide)) (nd_ne hnd 3 11 rfl rfl (by decide))
                    have g_b4_ : M38 b4 = some (mI E 24 SZ) := by rw [eM38]; exact tri_ne g_b4 (nd_ne hnd 4 0 rfl rfl (by decide)) (nd_ne hnd 4 10 rfl rfl (by decide)) (nd_ne hnd 4 11 rfl rfl (by decide))
                    have g_b5_ : M38 b5 = some (mJ E 960 SM) := by rw [eM38]; exact tri_ne g_b5 (nd_ne hnd 5 0 rfl rfl (by decide)) (nd_ne hnd 5 10 rfl rfl (by decide)) (nd_ne hnd 5 11 rfl rfl (by decide))
                    have g_b6_ : M38 b6 = some (mI E 12 SO) := by rw [eM38]; exact tri_ne g_b6 (nd_ne hnd 6 0 rfl rfl (by decide)) (nd_ne hnd 6 10 rfl rfl (by decide)) (nd_ne hnd 6 11 rfl rfl (by decide))
                    have g_b7_ : M38 b7 = some (mI E 48 KN) := by rw [eM38]; exact tri_ne g_b7 (nd_ne hnd 7 0 rfl rfl (by decide)) (nd_ne hnd 7 10 rfl rfl (by decide)) (nd_ne hnd 7 11 rfl rfl (by decide))
                    have g_b8_ : M38 b8 = some (mI E 12 PI) := by rw [eM38]; exact tri_ne g_b8 (nd_ne hnd 8 0 rfl rfl (by decide)) (nd_ne hnd 8 10 rfl rfl (by decide)) (nd_ne hnd 8 11 rfl rfl (by decide))
                    have g_b9_ : M38 b9 = some (mZ E 12 ON) := by rw [eM38]; exact tri_ne g_b9 (nd_ne hnd 9 0 rfl rfl (by decide)) (nd_ne hnd 9 10 rfl rfl (by decide)) (nd_ne hnd 9 11 rfl rfl (by decide))
                    have g_b12_ : M38 b12 = some (mI E 8 KD) := by rw [eM38]; exact tri_ne g_b12 (nd_ne hnd 12 0 rfl rfl (by decide)) (nd_ne hnd 12 10 rfl rfl (by decide)) (nd_ne hnd 12 11 rfl rfl (by decide))
                    have g_b13_ : M38 b13 = some (mI E 8 NM) := by rw [eM38]; exact tri_ne g_b13 (nd_ne hnd 13 0 rfl rfl (by decide)) (nd_ne hnd 13 10 rfl rfl (by decide)) (nd_ne hnd 13 11 rfl rfl (by decide))
                    have g_b14_ : M38 b14 = some (mI E 3 (upd CT 2 (c4 + nI (k9 + 1)))) := by rw [eM38]; exact tri_ne g_b14 (nd_ne hnd 14 0 rfl rfl (by decide)) (nd_ne hnd 14 10 rfl rfl (by decide)) (nd_ne hnd 14 11 rfl rfl (by decide))
                    have g_b15_ : M38 b15 = some (mDb E 40 CM9) := by rw [eM38]; exact tri_ne g_b15 (nd_ne hnd 15 0 rfl rfl (by decide)) (nd_ne hnd 15 10 rfl rfl (by decide)) (nd_ne hnd 15 11 rfl rfl (by decide))
                    have g_b16_ : M38 b16 = some (mJ E 40 MV) := by rw [eM38]; exact tri_ne g_b16 (nd_ne hnd 16 0 rfl rfl (by decide)) (nd_ne hnd 16 10 rfl rfl (by decide)) (nd_ne hnd 16 11 rfl rfl (by decide))
                    have g_b1 := g_b1_
                    have g_b2 := g_b2_
                    have g_b3 := g_b3_
                    have g_b4 := g_b4_
                    have g_b5 := g_b5_
                    have g_b6 := g_b6_
                    have g_b7 := g_b7_
                    have g_b8 := g_b8_
                    have g_b9 := g_b9_
                    have g_b12 := g_b12_
                    have g_b13 := g_b13_
                    have g_b14 := g_b14_
                    have g_b15 := g_b15_
                    have g_b16 := g_b16_
                    have g_y : M38 y = some (mO 8 [.ref b1, .ref b2, .ref b3, .ref b4, .ref b5, .int (nI nn), .ref b6, .ref b7, .ref b8, .ref b9, .ref b10, .ref b11, .int (nI nf), .ref b12, .ref b13, .int bd, .int st, .int ((sGive ci kf pi on (sSt ci kf pi on (tb.map rw) ph le k9).1 (sSt ci kf pi on (tb.map rw) ph le k9).2 (tb.map rw)).1), .ref b14, .ref b15, .ref b16]) := by rw [eM38]; exact tri_gp (nd_ne hnd 0 10 rfl rfl (by decide)) (nd_ne hnd 0 11 rfl rfl (by decide))
                    have g_b10 : M38 b10 = some (mI E 12 (upd (upd PH j (sSt ci kf pi on (tb.map rw) ph le k9).1) j ((sSt ci kf pi on (tb.map rw) ph le k9).1 + 1))) := by rw [eM38]; exact tri_gx (nd_ne hnd 10 11 rfl rfl (by decide))
                    have g_b11 : M38 b11 = some (mDb E 12 (sLE ci (sLE ci LE j (sSt ci kf pi on (tb.map rw) ph le k9).2) j (sGive ci kf pi on (sSt ci kf pi on (tb.map rw) ph le k9).1 (sSt ci kf pi on (tb.map rw) ph le k9).2 (tb.map rw)).2.2)) := by rw [eM38]; exact tri_ga
                    have hk : kept (nol y b1 b2 b3 b4 b5 b6 b7 b8 b9 b10 b11 b12 b13 b14 b15 b16) M M38 := (by rw [eM38]; exact hk.tri (nol_in 0 rfl) (nol_in 10 rfl) (nol_in 11 rfl))
                    refine m_dast hx hb hE hM hS g_b15 (vp_in_nI (by omega) (by decide)) dX10_play_196 (fun H locs hM hS => ?_)
                    rw [show vf_upd CM9 (nI k9).toNatClampNeg ((sGive ci kf pi on (sSt ci kf pi on (tb.map rw) ph le k9).1 (sSt ci kf pi on (tb.map rw) ph le k9).2 (tb.map rw)).2.1) = vf_upd CM9 k9 (sGive ci kf pi on (sSt ci kf pi on (tb.map rw) ph le k9).1 (sSt ci kf pi on (tb.map rw) ph le k9).2 (tb.map rw)).2.1 from by rw [nI_clamp (by omega)]] at hM
                    have hM : mOK E.1 (mA M sz) (mUp M38 b15 (mDb E 40 (vf_upd CM9 k9 (sGive ci kf pi on (sSt ci kf pi on (tb.map rw) ph le k9).1 (sSt ci kf pi on (tb.map rw) ph le k9).2 (tb.map rw)).2.1))) H := hM
                    obtain ⟨M39, eM39⟩ : ∃ z, z = mUp M38 b15 (mDb E 40 (vf_upd CM9 k9 (sGive ci kf pi on (sSt ci kf pi on (tb.map rw) ph le k9).1 (sSt ci kf pi on (tb.map rw) ph le k9).2 (tb.map rw)).2.1)) := ⟨_, rfl⟩
                    rw [← eM39] at hM
                    have g_y_ : M39 y = some (mO 8 [.ref b1, .ref b2, .ref b3, .ref b4, .ref b5, .int (nI nn), .ref b6, .ref b7, .ref b8, .ref b9, .ref b10, .ref b11, .int (nI nf), .ref b12, .ref b13, .int bd, .int st, .int ((sGive ci kf pi on (sSt ci kf pi on (tb.map rw) ph le k9).1 (sSt ci kf pi on (tb.map rw) ph le k9).2 (tb.map rw)).1), .ref b14, .ref b15, .ref b16]) := by rw [eM39]; exact mUp_at (nd_ne hnd 0 15 rfl rfl (by decide)) g_y
                    have g_b1_ : M39 b1 = some (mI E 10 B) := by rw [eM39]; exact mUp_at (nd_ne hnd 1 15 rfl rfl (by decide)) g_b1
                    have g_b2_ : M39 b2 = some (mI E 12 T) := by rw [eM39]; exact mUp_at (nd_ne hnd 2 15 rfl rfl (by decide)) g_b2
                    have g_b3_ : M39 b3 = some (mI E 24 LN) := by rw [eM39]; exact mUp_at (nd_ne hnd 3 15 rfl rfl (by decide)) g_b3
                    have g_b4_ : M39 b4 = some (mI E 24 SZ) := by rw [eM39]; exact mUp_at (nd_ne hnd 4 15 rfl rfl (by decide)) g_b4
                    have g_b5_ : M39 b5 = some (mJ E 960 SM) := by rw [eM39]; exact mUp_at (nd_ne hnd 5 15 rfl rfl (by decide)) g_b5
                    have g_b6_ : M39 b6 = some (mI E 12 SO) := by rw [eM39]; exact mUp_at (nd_ne hnd 6 15 rfl rfl (by decide)) g_b6
                    have g_b7_ : M39 b7 = some (mI E 48 KN) := by rw [eM39]; exact mUp_at (nd_ne hnd 7 15 rfl rfl (by decide)) g_b7
                    have g_b8_ : M39 b8 = some (mI E 12 PI) := by rw [eM39]; exact mUp_at (nd_ne hnd 8 15 rfl rfl (by decide)) g_b8
                    have g_b9_ : M39 b9 = some (mZ E 12 ON) := by rw [eM39]; exact mUp_at (nd_ne hnd 9 15 rfl rfl (by decide)) g_b9
                    have g_b10_ : M39 b10 = some (mI E 12 (upd (upd PH j (sSt ci kf pi on (tb.map rw) ph le k9).1) j ((sSt ci kf pi on (tb.map rw) ph le k9).1 + 1))) := by rw [eM39]; exact mUp_at (nd_ne hnd 10 15 rfl rfl (by decide)) g_b10
                    have g_b11_ : M39 b11 = some (mDb E 12 (sLE ci (sLE ci LE j (sSt ci kf pi on (tb.map rw) ph le k9).2) j (sGive ci kf pi on (sSt ci kf pi on (tb.map rw) ph le k9).1 (sSt ci kf pi on (tb.map rw) ph le k9).2 (tb.map rw)).2.2)) := by rw [eM39]; exact mUp_at (nd_ne hnd 11 15 rfl rfl (by decide)) g_b11
                    have g_b12_ : M39 b12 = some (mI E 8 KD) := by rw [eM39]; exact mUp_at (nd_ne hnd 12 15 rfl rfl (by decide)) g_b12
                    have g_b13_ : M39 b13 = some (mI E 8 NM) := by rw [eM39]; exact mUp_at (nd_ne hnd 13 15 rfl rfl (by decide)) g_b13
                    have g_b14_ : M39 b14 = some (mI E 3 (upd CT 2 (c4 + nI (k9 + 1)))) := by rw [eM39]; exact mUp_at (nd_ne hnd 14 15 rfl rfl (by decide)) g_b14
                    have g_b16_ : M39 b16 = some (mJ E 40 MV) := by rw [eM39]; exact mUp_at (nd_ne hnd 16 15 rfl rfl (by decide)) g_b16
                    have g_y := g_y_
                    have g_b1 := g_b1_
                    have g_b2 := g_b2_
                    have g_b3 := g_b3_
                    have g_b4 := g_b4_
                    have g_b5 := g_b5_
                    have g_b6 := g_b6_
                    have g_b7 := g_b7_
                    have g_b8 := g_b8_
                    have g_b9 := g_b9_
                    have g_b10 := g_b10_
                    have g_b11 := g_b11_
                    have g_b12 := g_b12_
                    have g_b13 := g_b13_
                    have g_b14 := g_b14_
                    have g_b16 := g_b16_
                    have g_b15 : M39 b15 = some (mDb E 40 (vf_upd CM9 k9 (sGive ci kf pi on (sSt ci kf pi on (tb.map rw) ph le k9).1 (sSt ci kf pi on (tb.map rw) ph le k9).2 (tb.map rw)).2.1)) := by rw [eM39]; exact mUp_self _ _ _
                    have hk : kept (nol y b1 b2 b3 b4 b5 b6 b7 b8 b9 b10 b11 b12 b13 b14 b15 b16) M M39 := (by rw [eM39]; exact hk.up (nol_in 15 rfl))
                    refine lv_aload_n hx hb dX10_play_197 rfl (lv_at hl 3 rfl) ?_
                    refine m_get (ci := 8) (v := .int ((sGive ci kf pi on (sSt ci kf pi on (tb.map rw) ph le k9).1 (sSt ci kf pi on (tb.map rw) ph le k9).2 (tb.map rw)).1)) (C := RX10) (T := TX10) (N := 21) hx hb hts in_X10_play_X10 hown hE hM g_y rfl 17 (by decide) (hts (.fieldLink RX10 112 "CallWays2Model" "failure" "I") (by decide +kernel)) (fun _ h9 => h9) rfl dX10_play_198 ?_
                    refine lv_if_ne (tgt := 228) hx hb dX10_play_201 (by decide) (fun c_201 => ?_) (fun c_201 => ?_)
                    · skip
                      refine lv_aload_n hx hb dX10_play_228 rfl (lv_at hl 3 rfl) ?_
                      refine m_get (ci := 8) (v := .int ((sGive ci kf pi on (sSt ci kf pi on (tb.map rw) ph le k9).1 (sSt ci kf pi on (tb.map rw) ph le k9).2 (tb.map rw)).1)) (C := RX10) (T := TX10) (N := 21) hx hb hts in_X10_play_X10 hown hE hM g_y rfl 17 (by decide) (hts (.fieldLink RX10 112 "CallWays2Model" "failure" "I") (by decide +kernel)) (fun _ h9 => h9) rfl dX10_play_229 ?_
                      refine lv_istore (lv' := [(8, .int ((sGive ci kf pi on (sSt ci kf pi on (tb.map rw) ph le k9).1 (sSt ci kf pi on (tb.map rw) ph le k9).2 (tb.map rw)).1)), (9, .int (nI k9)), (7, .int (nI w)), (0, .ref y), (1, .int (nI j)), (2, .int wy), (3, .int (nI q)), (4, .int b), (5, .int (nI a9)), (6, .int (nI kn))]) hx hb dX10_play_232 hl (by decide) rfl (fun ls hl => ?_)
                      refine lv_iinc (v := ((nI k9) + 1)) (lv' := [(9, .int ((nI k9) + 1)), (8, .int ((sGive ci kf pi on (sSt ci kf pi on (tb.map rw) ph le k9).1 (sSt ci kf pi on (tb.map rw) ph le k9).2 (tb.map rw)).1)), (7, .int (nI w)), (0, .ref y), (1, .int (nI j)), (2, .int wy), (3, .int (nI q)), (4, .int b), (5, .int (nI a9)), (6, .int (nI kn))]) hx hb dX10_play_234 hl (k := 1) rfl rfl (by decide) rfl (fun ls hl => ?_)
                      refine lv_goto (tgt := 163) hx hb dX10_play_237 (by decide) ?_
                      refine lv_iload hx hb dX10_play_163 (lv_at hl 0 rfl) ?_
                      refine lv_iload hx hb dX10_play_165 (lv_at hl 9 rfl) ?_
                      refine lv_icmp_ge (tgt := 240) hx hb dX10_play_167 (by decide) (fun c_167 => ?_) (fun c_167 => ?_)
                      · skip
                        exact mid ((sGive ci kf pi on (sSt ci kf pi on (tb.map rw) ph le k9).1 (sSt ci kf pi on (tb.map rw) ph le k9).2 (tb.map rw)).1) (k9 + 1) (vf_upd CM9 k9 (sGive ci kf pi on (sSt ci kf pi on (tb.map rw) ph le k9).1 (sSt ci kf pi on (tb.map rw) ph le k9).2 (tb.map rw)).2.1) ((sGive ci kf pi on (sSt ci kf pi on (tb.map rw) ph le k9).1 (sSt ci kf pi on (tb.map rw) ph le k9).2 (tb.map rw)).1) M39 ls _ _ (by rw [hsg, go_f c_201]; rfl) sG_neg (fun z => absurd z c_201) (by rw [eM39, eM38, eM37, eMi, pen_c hd5, pen_tri hd5, pen_d]; simp only [upd_up, sLE_up]; rfl) hM hS (lv_sub hl [1, 2, 3, 4, 5, 6, 7, 8, 9] rfl)
                      · skip
                        refine lv_iload hx hb dX10_play_170 (lv_at hl 1 rfl) ?_
                        refine lv_if_ne (tgt := 240) hx hb dX10_play_172 (by decide) (fun _ => ?_) (fun h9 => False.elim (by revert h9; exact (fun h => c_201 h)))
                        exact mid ((sGive ci kf pi on (sSt ci kf pi on (tb.map rw) ph le k9).1 (sSt ci kf pi on (tb.map rw) ph le k9).2 (tb.map rw)).1) (k9 + 1) (vf_upd CM9 k9 (sGive ci kf pi on (sSt ci kf pi on (tb.map rw) ph le k9).1 (sSt ci kf pi on (tb.map rw) ph le k9).2 (tb.map rw)).2.1) ((sGive ci kf pi on (sSt ci kf pi on (tb.map rw) ph le k9).1 (sSt ci kf pi on (tb.map rw) ph le k9).2 (tb.map rw)).1) M39 ls _ _ (by rw [hsg, go_f c_201]; rfl) sG_neg (fun z => absurd z c_201) (by rw [eM39, eM38, eM37, eMi, pen_c hd5, pen_tri hd5, pen_d]; simp only [upd_up, sLE_up]; rfl) hM hS (lv_sub hl [1, 2, 3, 4, 5, 6, 7, 8, 9] rfl)
                    · skip
                      have hg0 : (sGive ci kf pi on (sSt ci kf pi on (tb.map rw) ph le k9).1 (sSt ci kf pi on (tb.map rw) ph le k9).2 (tb.map rw)).1 = 0 := c_201
                      refine lv_iload_n hx hb dX10_play_204 rfl (lv_at hl 5 rfl) ?_
                      refine lv_iconst (v := 2) hx hb dX10_play_205 (by decide) ?_
                      refine lv_icmp_ne (tgt := 228) hx hb dX10_play_206 (by decide) (fun h9 => False.elim (by revert h9; exact (fun h => h hw2))) (fun _ => ?_)
                      refine lv_aload_n hx hb dX10_play_209 rfl (lv_at hl 3 rfl) ?_
                      refine m_get (ci := 8) (v := .ref b15) (C := RX10) (T := TX10) (N := 21) hx hb hts in_X10_play_X10 hown hE hM g_y rfl 19 (by decide) (hts (.fieldLink RX10 55 "CallWays2Model" "come" "[D") (by decide +kernel)) (fun _ h9 => h9) rfl dX10_play_210 ?_
                      refine lv_iload hx hb dX10_play_213 (lv_at hl 0 rfl) ?_
                      refine lv_aload_n hx hb dX10_play_215 rfl (lv_at hl 3 rfl) ?_
                      refine lv_iload_n hx hb dX10_play_216 rfl (lv_at hl 6 rfl) ?_
                      refine lv_aload_n hx hb dX10_play_217 rfl (lv_at hl 3 rfl) ?_
                      refine m_get (ci := 8) (v := .ref b15) (C := RX10) (T := TX10) (N := 21) hx hb hts in_X10_play_X10 hown hE hM g_y rfl 19 (by decide) (hts (.fieldLink RX10 55 "CallWays2Model" "come" "[D") (by decide +kernel)) (fun _ h9 => h9) rfl dX10_play_218 ?_
                      refine lv_iload hx hb dX10_play_221 (lv_at hl 0 rfl) ?_
                      refine m_dald hx hb hE hM g_b15 (vp_in_nI (by omega) (by decide)) dX10_play_223 ?_
                      rw [show (vf_upd CM9 k9 (sGive ci kf pi on (sSt ci kf pi on (tb.map rw) ph le k9).1 (sSt ci kf pi on (tb.map rw) ph le k9).2 (tb.map rw)).2.1) (nI k9).toNatClampNeg = (sGive ci kf pi on (sSt ci kf pi on (tb.map rw) ph le k9).1 (sSt ci kf pi on (tb.map rw) ph le k9).2 (tb.map rw)).2.1 from by rw [nI_clamp (by omega), vfu_s]]
                      refine m_calld (va_runV (As := [.int (nI q), .double ((sGive ci kf pi on (sSt ci kf pi on (tb.map rw) ph le k9).1 (sSt ci kf pi on (tb.map rw) ph le k9).2 (tb.map rw)).2.1)]) (rest := [.int (nI k9), .ref b15]) ⟨hx, hb, hml, hown, hts⟩ (c_X10_through l E M39 H.size y b1 b2 b3 b4 b5 b6 b7 b8 b9 b10 b11 b12 b13 b14 b15 b16 (nI nn) (nI nf) bd st ((sGive ci kf pi on (sSt ci kf pi on (tb.map rw) ph le k9).1 (sSt ci kf pi on (tb.map rw) ph le k9).2 (tb.map rw)).1) KD NM q (by omega) ((sGive ci kf pi on (sSt ci kf pi on (tb.map rw) ph le k9).1 (sSt ci kf pi on (tb.map rw) ph le k9).2 (tb.map rw)).2.1) ((dB_give (hst k9) hto).fin (by decide)) (fn q).1 (fn q).2 (hF q hq).1 (hF q hq).2 (hvF q hq) g_y g_b12 g_b13) (cwV 2 hts gX10_play_X10_through rfl rfl rfl (by decide +kernel) ⟨Nat.le_of_ble_eq_true rfl, Nat.le_of_ble_eq_true rfl⟩) (m_preV hE hM g_y rfl) rfl rfl hl.1 rfl (lv_room (Nat.le_of_ble_eq_true rfl)) dX10_play_224 ⟨Nat.le_of_ble_eq_true rfl, Nat.le_of_ble_eq_true rfl⟩) hM hS hA (fun r5 M40 H locs hw hM hS => ?_)
                      obtain ⟨e_r5, eM40⟩ := hw
                      by_cases hrf : sRef (fn q).1 (FP.i2d (fn q).2) ((sGive ci kf pi on (sSt ci kf pi on (tb.map rw) ph le k9).1 (sSt ci kf pi on (tb.map rw) ph le k9).2 (tb.map rw)).2.1)
                      · rw [if_pos hrf] at e_r5 eM40
                        subst e_r5
                        have g_b1_ : M40 b1 = some (mI E 10 B) := by rw [eM40]; exact mUp_at (nd_ne hnd 1 0 rfl rfl (by decide)) g_b1
                        have g_b2_ : M40 b2 = some (mI E 12 T) := by rw [eM40]; exact mUp_at (nd_ne hnd 2 0 rfl rfl (by decide)) g_b2
                        have g_b3_ : M40 b3 = some (mI E 24 LN) := by rw [eM40]; exact mUp_at (nd_ne hnd 3 0 rfl rfl (by decide)) g_b3
                        have g_b4_ : M40 b4 = some (mI E 24 SZ) := by rw [eM40]; exact mUp_at (nd_ne hnd 4 0 rfl rfl (by decide)) g_b4
                        have g_b5_ : M40 b5 = some (mJ E 960 SM) := by rw [eM40]; exact mUp_at (nd_ne hnd 5 0 rfl rfl (by decide)) g_b5
                        have g_b6_ : M40 b6 = some (mI E 12 SO) := by rw [eM40]; exact mUp_at (nd_ne hnd 6 0 rfl rfl (by decide)) g_b6
                        have g_b7_ : M40 b7 = some (mI E 48 KN) := by rw [eM40]; exact mUp_at (nd_ne hnd 7 0 rfl rfl (by decide)) g_b7
                        have g_b8_ : M40 b8 = some (mI E 12 PI) := by rw [eM40]; exact mUp_at (nd_ne hnd 8 0 rfl rfl (by decide)) g_b8
                        have g_b9_ : M40 b9 = some (mZ E 12 ON) := by rw [eM40]; exact mUp_at (nd_ne hnd 9 0 rfl rfl (by decide)) g_b9
                        have g_b10_ : M40 b10 = some (mI E 12 (upd (upd PH j (sSt ci kf pi on (tb.map rw) ph le k9).1) j ((sSt ci kf pi on (tb.map rw) ph le k9).1 + 1))) := by rw [eM40]; exact mUp_at (nd_ne hnd 10 0 rfl rfl (by decide)) g_b10
                        have g_b11_ : M40 b11 = some (mDb E 12 (sLE ci (sLE ci LE j (sSt ci kf pi on (tb.map rw) ph le k9).2) j (sGive ci kf pi on (sSt ci kf pi on (tb.map rw) ph le k9).1 (sSt ci kf pi on (tb.map rw) ph le k9).2 (tb.map rw)).2.2)) := by rw [eM40]; exact mUp_at (nd_ne hnd 11 0 rfl rfl (by decide)) g_b11
                        have g_b12_ : M40 b12 = some (mI E 8 KD) := by rw [eM40]; exact mUp_at (nd_ne hnd 12 0 rfl rfl (by decide)) g_b12
                        have g_b13_ : M40 b13 = some (mI E 8 NM) := by rw [eM40]; exact mUp_at (nd_ne hnd 13 0 rfl rfl (by decide)) g_b13
                        have g_b14_ : M40 b14 = some (mI E 3 (upd CT 2 (c4 + nI (k9 + 1)))) := by rw [eM40]; exact mUp_at (nd_ne hnd 14 0 rfl rfl (by decide)) g_b14
                        have g_b15_ : M40 b15 = some (mDb E 40 (vf_upd CM9 k9 (sGive ci kf pi on (sSt ci kf pi on (tb.map rw) ph le k9).1 (sSt ci kf pi on (tb.map rw) ph le k9).2 (tb.map rw)).2.1)) := by rw [eM40]; exact mUp_at (nd_ne hnd 15 0 rfl rfl (by decide)) g_b15
                        have g_b16_ : M40 b16 = some (mJ E 40 MV) := by rw [eM40]; exact mUp_at (nd_ne hnd 16 0 rfl rfl (by decide)) g_b16
                        have g_b1 := g_b1_
                        have g_b2 := g_b2_
                        have g_b3 := g_b3_
                        have g_b4 := g_b4_
                        have g_b5 := g_b5_
                        have g_b6 := g_b6_
                        have g_b7 := g_b7_
                        have g_b8 := g_b8_
                        have g_b9 := g_b9_
                        have g_b10 := g_b10_
                        have g_b11 := g_b11_
                        have g_b12 := g_b12_
                        have g_b13 := g_b13_
                        have g_b14 := g_b14_
                        have g_b15 := g_b15_
                        have g_b16 := g_b16_
                        have g_y : M40 y = some (mO 8 [.ref b1, .ref b2, .ref b3, .ref b4, .ref b5, .int (nI nn), .ref b6, .ref b7, .ref b8, .ref b9, .ref b10, .ref b11, .int (nI nf), .ref b12, .ref b13, .int bd, .int st, .int (-3), .ref b14, .ref b15, .ref b16]) := by rw [eM40]; exact mUp_self _ _ _
                        have hk : kept (nol y b1 b2 b3 b4 b5 b6 b7 b8 b9 b10 b11 b12 b13 b14 b15 b16) M M40 := (by rw [eM40]; exact hk.up (nol_in 0 rfl))
                        refine m_dast hx hb hE hM hS g_b15 (vp_in_nI (by omega) (by decide)) dX10_play_227 (fun H locs hM hS => ?_)
                        rw [show vf_upd (vf_upd CM9 k9 (sGive ci kf pi on (sSt ci kf pi on (tb.map rw) ph le k9).1 (sSt ci kf pi on (tb.map rw) ph le k9).2 (tb.map rw)).2.1) (nI k9).toNatClampNeg FP.dconst0 = vf_upd (vf_upd CM9 k9 (sGive ci kf pi on (sSt ci kf pi on (tb.map rw) ph le k9).1 (sSt ci kf pi on (tb.map rw) ph le k9).2 (tb.map rw)).2.1) k9 FP.dconst0 from by rw [nI_clamp (by omega)]] at hM
                        have hM : mOK E.1 (mA M sz) (mUp M40 b15 (mDb E 40 (vf_upd (vf_upd CM9 k9 (sGive ci kf pi on (sSt ci kf pi on (tb.map rw) ph le k9).1 (sSt ci kf pi on (tb.map rw) ph le k9).2 (tb.map rw)).2.1) k9 FP.dconst0))) H := hM
                        obtain ⟨M41, eM41⟩ : ∃ z, z = mUp M40 b15 (mDb E 40 (vf_upd (vf_upd CM9 k9 (sGive ci kf pi on (sSt ci kf pi on (tb.map rw) ph le k9).1 (sSt ci kf pi on (tb.map rw) ph le k9).2 (tb.map rw)).2.1) k9 FP.dconst0)) := ⟨_, rfl⟩
                        rw [← eM41] at hM
                        have g_y_ : M41 y = some (mO 8 [.ref b1, .ref b2, .ref b3, .ref b4, .ref b5, .int (nI nn), .ref b6, .ref b7, .ref b8, .ref b9, .ref b10, .ref b11, .int (nI nf), .ref b12, .ref b13, .int bd, .int st, .int (-3), .ref b14, .ref b15, .ref b16]) := by rw [eM41]; exact mUp_at (nd_ne hnd 0 15 rfl rfl (by decide)) g_y
                        have g_b1_ : M41 b1 = some (mI E 10 B) := by rw [eM41]; exact mUp_at (nd_ne hnd 1 15 rfl rfl (by decide)) g_b1
                        have g_b2_ : M41 b2 = some (mI E 12 T) := by rw [eM41]; exact mUp_at (nd_ne hnd 2 15 rfl rfl (by decide)) g_b2
                        have g_b3_ : M41 b3 = some (mI E 24 LN) := by rw [eM41]; exact mUp_at (nd_ne hnd 3 15 rfl rfl (by decide)) g_b3
                        have g_b4_ : M41 b4 = some (mI E 24 SZ) := by rw [eM41]; exact mUp_at (nd_ne hnd 4 15 rfl rfl (by decide)) g_b4
                        have g_b5_ : M41 b5 = some (mJ E 960 SM) := by rw [eM41]; exact mUp_at (nd_ne hnd 5 15 rfl rfl (by decide)) g_b5
                        have g_b6_ : M41 b6 = some (mI E 12 SO) := by rw [eM41]; exact mUp_at (nd_ne hnd 6 15 rfl rfl (by decide)) g_b6
                        have g_b7_ : M41 b7 = some (mI E 48 KN) := by rw [eM41]; exact mUp_at (nd_ne hnd 7 15 rfl rfl (by decide)) g_b7
                        have g_b8_ : M41 b8 = some (mI E 12 PI) := by rw [eM41]; exact mUp_at (nd_ne hnd 8 15 rfl rfl (by decide)) g_b8
                        have g_b9_ : M41 b9 = some (mZ E 12 ON) := by rw [eM41]; exact mUp_at (nd_ne hnd 9 15 rfl rfl (by decide)) g_b9
                        have g_b10_ : M41 b10 = some (mI E 12 (upd (upd PH j (sSt ci kf pi on (tb.map rw) ph le k9).1) j ((sSt ci kf pi on (tb.map rw) ph le k9).1 + 1))) := by rw [eM41]; exact mUp_at (nd_ne hnd 10 15 rfl rfl (by decide)) g_b10
                        have g_b11_ : M41 b11 = some (mDb E 12 (sLE ci (sLE ci LE j (sSt ci kf pi on (tb.map rw) ph le k9).2) j (sGive ci kf pi on (sSt ci kf pi on (tb.map rw) ph le k9).1 (sSt ci kf pi on (tb.map rw) ph le k9).2 (tb.map rw)).2.2)) := by rw [eM41]; exact mUp_at (nd_ne hnd 11 15 rfl rfl (by decide)) g_b11
                        have g_b12_ : M41 b12 = some (mI E 8 KD) := by rw [eM41]; exact mUp_at (nd_ne hnd 12 15 rfl rfl (by decide)) g_b12
                        have g_b13_ : M41 b13 = some (mI E 8 NM) := by rw [eM41]; exact mUp_at (nd_ne hnd 13 15 rfl rfl (by decide)) g_b13
                        have g_b14_ : M41 b14 = some (mI E 3 (upd CT 2 (c4 + nI (k9 + 1)))) := by rw [eM41]; exact mUp_at (nd_ne hnd 14 15 rfl rfl (by decide)) g_b14
                        have g_b16_ : M41 b16 = some (mJ E 40 MV) := by rw [eM41]; exact mUp_at (nd_ne hnd 16 15 rfl rfl (by decide)) g_b16
                        have g_y := g_y_
                        have g_b1 := g_b1_
                        have g_b2 := g_b2_
                        have g_b3 := g_b3_
                        have g_b4 := g_b4_
                        have g_b5 := g_b5_
                        have g_b6 := g_b6_
                        have g_b7 := g_b7_
                        have g_b8 := g_b8_
                        have g_b9 := g_b9_
                        have g_b10 := g_b10_
                        have g_b11 := g_b11_
                        have g_b12 := g_b12_
                        have g_b13 := g_b13_
                        have g_b14 := g_b14_
                        have g_b16 := g_b16_
                        have g_b15 : M41 b15 = some (mDb E 40 (vf_upd (vf_upd CM9 k9 (sGive ci kf pi on (sSt ci kf pi on (tb.map rw) ph le k9).1 (sSt ci kf pi on (tb.map rw) ph le k9).2 (tb.map rw)).2.1) k9 FP.dconst0)) := by rw [eM41]; exact mUp_self _ _ _
                        have hk : kept (nol y b1 b2 b3 b4 b5 b6 b7 b8 b9 b10 b11 b12 b13 b14 b15 b16) M M41 := (by rw [eM41]; exact hk.up (nol_in 15 rfl))
                        refine lv_aload_n hx hb dX10_play_228 rfl (lv_at hl 3 rfl) ?_
                        refine m_get (ci := 8) (v := .int (-3)) (C := RX10) (T := TX10) (N := 21) hx hb hts in_X10_play_X10 hown hE hM g_y rfl 17 (by decide) (hts (.fieldLink RX10 112 "CallWays2Model" "failure" "I") (by decide +kernel)) (fun _ h9 => h9) rfl dX10_play_229 ?_
                        refine lv_istore (lv' := [(8, .int (-3)), (9, .int (nI k9)), (7, .int (nI w)), (0, .ref y), (1, .int (nI j)), (2, .int wy), (3, .int (nI q)), (4, .int b), (5, .int (nI a9)), (6, .int (nI kn))]) hx hb dX10_play_232 hl (by decide) rfl (fun ls hl => ?_)
                        refine lv_iinc (v := ((nI k9) + 1)) (lv' := [(9, .int ((nI k9) + 1)), (8, .int (-3)), (7, .int (nI w)), (0, .ref y), (1, .int (nI j)), (2, .int wy), (3, .int (nI q)), (4, .int b), (5, .int (nI a9)), (6, .int (nI kn))]) hx hb dX10_play_234 hl (k := 1) rfl rfl (by decide) rfl (fun ls hl => ?_)
                        refine lv_goto (tgt := 163) hx hb dX10_play_237 (by decide) ?_
                        refine lv_iload hx hb dX10_play_163 (lv_at hl 0 rfl) ?_
                        refine lv_iload hx hb dX10_play_165 (lv_at hl 9 rfl) ?_
                        refine lv_icmp_ge (tgt := 240) hx hb dX10_play_167 (by decide) (fun c_167 => ?_) (fun c_167 => ?_)
                        · skip
                          exact mid (-3) (k9 + 1) (vf_upd (vf_upd CM9 k9 (sGive ci kf pi on (sSt ci kf pi on (tb.map rw) ph le k9).1 (sSt ci kf pi on (tb.map rw) ph le k9).2 (tb.map rw)).2.1) k9 FP.dconst0) (-3) M41 ls _ _ (by rw [hsg, go_r hg0 (by rw [efu2]; exact decide_eq_true hrf)]) (Or.inr (by decide)) (fun z => absurd z (by decide)) (by rw [eM41, eM40, eM39, eM38, eM37, eMi, pen_c hd5, pen_tri hd5, pen_d, pen_y hd5, pen_d]; simp only [upd_up, sLE_up]; rfl) hM hS (lv_sub hl [1, 2, 3, 4, 5, 6, 7, 8, 9] rfl)
                        · skip
                          refine lv_iload hx hb dX10_play_170 (lv_at hl 1 rfl) ?_
                          refine lv_if_ne (tgt := 240) hx hb dX10_play_172 (by decide) (fun _ => ?_) (fun h9 => False.elim (by revert h9; exact (fun h => absurd h (by decide))))
                          exact mid (-3) (k9 + 1) (vf_upd (vf_upd CM9 k9 (sGive ci kf pi on (sSt ci kf pi on (tb.map rw) ph le k9).1 (sSt ci kf pi on (tb.map rw) ph le k9).2 (tb.map rw)).2.1) k9 FP.dconst0) (-3) M41 ls _ _ (by rw [hsg, go_r hg0 (by rw [efu2]; exact decide_eq_true hrf)]) (Or.inr (by decide)) (fun z => absurd z (by decide)) (by rw [eM41, eM40, eM39, eM38, eM37, eMi, pen_c hd5, pen_tri hd5, pen_d, pen_y hd5, pen_d]; simp only [upd_up, sLE_up]; rfl) hM hS (lv_sub hl [1, 2, 3, 4, 5, 6, 7, 8, 9] rfl)
                      · rw [if_neg hrf] at e_r5 eM40
                        subst e_r5
                        have g_b1_ : M40 b1 = some (mI E 10 B) := by rw [eM40]; exact mUp_at (nd_ne hnd 1 0 rfl rfl (by decide)) g_b1
                        have g_b2_ : M40 b2 = some (mI E 12 T) := by rw [eM40]; exact mUp_at (nd_ne hnd 2 0 rfl rfl (by decide)) g_b2
                        have g_b3_ : M40 b3 = some (mI E 24 LN) := by rw [eM40]; exact mUp_at (nd_ne hnd 3 0 rfl rfl (by decide)) g_b3
                        have g_b4_ : M40 b4 = some (mI E 24 SZ) := by rw [eM40]; exact mUp_at (nd_ne hnd 4 0 rfl rfl (by decide)) g_b4
                        have g_b5_ : M40 b5 = some (mJ E 960 SM) := by rw [eM40]; exact mUp_at (nd_ne hnd 5 0 rfl rfl (by decide)) g_b5
                        have g_b6_ : M40 b6 = some (mI E 12 SO) := by rw [eM40]; exact mUp_at (nd_ne hnd 6 0 rfl rfl (by decide)) g_b6
                        have g_b7_ : M40 b7 = some (mI E 48 KN) := by rw [eM40]; exact mUp_at (nd_ne hnd 7 0 rfl rfl (by decide)) g_b7
                        have g_b8_ : M40 b8 = some (mI E 12 PI) := by rw [eM40]; exact mUp_at (nd_ne hnd 8 0 rfl rfl (by decide)) g_b8
                        have g_b9_ : M40 b9 = some (mZ E 12 ON) := by rw [eM40]; exact mUp_at (nd_ne hnd 9 0 rfl rfl (by decide)) g_b9
                        have g_b10_ : M40 b10 = some (mI E 12 (upd (upd PH j (sSt ci kf pi on (tb.map rw) ph le k9).1) j ((sSt ci kf pi on (tb.map rw) ph le k9).1 + 1))) := by rw [eM40]; exact mUp_at (nd_ne hnd 10 0 rfl rfl (by decide)) g_b10
                        have g_b11_ : M40 b11 = some (mDb E 12 (sLE ci (sLE ci LE j (sSt ci kf pi on (tb.map rw) ph le k9).2) j (sGive ci kf pi on (sSt ci kf pi on (tb.map rw) ph le k9).1 (sSt ci kf pi on (tb.map rw) ph le k9).2 (tb.map rw)).2.2)) := by rw [eM40]; exact mUp_at (nd_ne hnd 11 0 rfl rfl (by decide)) g_b11
                        have g_b12_ : M40 b12 = some (mI E 8 KD) := by rw [eM40]; exact mUp_at (nd_ne hnd 12 0 rfl rfl (by decide)) g_b12
                        have g_b13_ : M40 b13 = some (mI E 8 NM) := by rw [eM40]; exact mUp_at (nd_ne hnd 13 0 rfl rfl (by decide)) g_b13
                        have g_b14_ : M40 b14 = some (mI E 3 (upd CT 2 (c4 + nI (k9 + 1)))) := by rw [eM40]; exact mUp_at (nd_ne hnd 14 0 rfl rfl (by decide)) g_b14
                        have g_b15_ : M40 b15 = some (mDb E 40 (vf_upd CM9 k9 (sGive ci kf pi on (sSt ci kf pi on (tb.map rw) ph le k9).1 (sSt ci kf pi on (tb.map rw) ph le k9).2 (tb.map rw)).2.1)) := by rw [eM40]; exact mUp_at (nd_ne hnd 15 0 rfl rfl (by decide)) g_b15
                        have g_b16_ : M40 b16 = some (mJ E 40 MV) := by rw [eM40]; exact mUp_at (nd_ne hnd 16 0 rfl rfl (by decide)) g_b16
                        have g_b1 := g_b1_
                        have g_b2 := g_b2_
                        have g_b3 := g_b3_
                        have g_b4 := g_b4_
                        have g_b5 := g_b5_
                        have g_b6 := g_b6_
                        have g_b7 := g_b7_
                        have g_b8 := g_b8_
                        have g_b9 := g_b9_
                        have g_b10 := g_b10_
                        have g_b11 := g_b11_
                        have g_b12 := g_b12_
                        have g_b13 := g_b13_
                        have g_b14 := g_b14_
                        have g_b15 := g_b15_
                        have g_b16 := g_b16_
                        have g_y : M40 y = some (mO 8 [.ref b1, .ref b2, .ref b3, .ref b4, .ref b5, .int (nI nn), .ref b6, .ref b7, .ref b8, .ref b9, .ref b10, .ref b11, .int (nI nf), .ref b12, .ref b13, .int bd, .int st, .int ((sGive ci kf pi on (sSt ci kf pi on (tb.map rw) ph le k9).1 (sSt ci kf pi on (tb.map rw) ph le k9).2 (tb.map rw)).1), .ref b14, .ref b15, .ref b16]) := by rw [eM40]; exact mUp_self _ _ _
                        have hk : kept (nol y b1 b2 b3 b4 b5 b6 b7 b8 b9 b10 b11 b12 b13 b14 b15 b16) M M40 := (by rw [eM40]; exact hk.up (nol_in 0 rfl))
                        refine m_dast hx hb hE hM hS g_b15 (vp_in_nI (by omega) (by decide)) dX10_play_227 (fun H locs hM hS => ?_)
                        rw [show vf_upd (vf_upd CM9 k9 (sGive ci kf pi on (sSt ci kf pi on (tb.map rw) ph le k9).1 (sSt ci kf pi on (tb.map rw) ph le k9).2 (tb.map rw)).2.1) (nI k9).toNatClampNeg (sPass (fn q).1 (FP.i2d (fn q).2) ((sGive ci kf pi on (sSt ci kf pi on (tb.map rw) ph le k9).1 (sSt ci kf pi on (tb.map rw) ph le k9).2 (tb.map rw)).2.1)) = vf_upd (vf_upd CM9 k9 (sGive ci kf pi on (sSt ci kf pi on (tb.map rw) ph le k9).1 (sSt ci kf pi on (tb.map rw) ph le k9).2 (tb.map rw)).2.1) k9 (sPass (fn q).1 (FP.i2d (fn q).2) ((sGive ci kf pi on (sSt ci kf pi on (tb.map rw) ph le k9).1 (sSt ci kf pi on (tb.map rw) ph le k9).2 (tb.map rw)).2.1)) from by rw [nI_clamp (by omega)]] at hM
                        have hM : mOK E.1 (mA M sz) (mUp M40 b15 (mDb E 40 (vf_upd (vf_upd CM9 k9 (sGive ci kf pi on (sSt ci kf pi on (tb.map rw) ph le k9).1 (sSt ci kf pi on (tb.map rw) ph le k9).2 (tb.map rw)).2.1) k9 (sPass (fn q).1 (FP.i2d (fn q).2) ((sGive ci kf pi on (sSt ci kf pi on (tb.map rw) ph le k9).1 (sSt ci kf pi on (tb.map rw) ph le k9).2 (tb.map rw)).2.1))))) H := hM
                        obtain ⟨M42, eM42⟩ : ∃ z, z = mUp M40 b15 (mDb E 40 (vf_upd (vf_upd CM9 k9 (sGive ci kf pi on (sSt ci kf pi on (tb.map rw) ph le k9).1 (sSt ci kf pi on (tb.map rw) ph le k9).2 (tb.map rw)).2.1) k9 (sPass (fn q).1 (FP.i2d (fn q).2) ((sGive ci kf pi on (sSt ci kf pi on (tb.map rw) ph le k9).1 (sSt ci kf pi on (tb.map rw) ph le k9).2 (tb.map rw)).2.1)))) := ⟨_, rfl⟩
                        rw [← eM42] at hM
                        have g_y_ : M42 y = some (mO 8 [.ref b1, .ref b2, .ref b3, .ref b4, .ref b5, .int (nI nn), .ref b6, .ref b7, .ref b8, .ref b9, .ref b10, .ref b11, .int (nI nf), .ref b12, .ref b13, .int bd, .int st, .int ((sGive ci kf pi on (sSt ci kf pi on (tb.map rw) ph le k9).1 (sSt ci kf pi on (tb.map rw) ph le k9).2 (tb.map rw)).1), .ref b14, .ref b15, .ref b16]) := by rw [eM42]; exact mUp_at (nd_ne hnd 0 15 rfl rfl (by decide)) g_y
                        have g_b1_ : M42 b1 = some (mI E 10 B) := by rw [eM42]; exact mUp_at (nd_ne hnd 1 15 rfl rfl (by decide)) g_b1
                        have g_b2_ : M42 b2 = some (mI E 12 T) := by rw [eM42]; exact mUp_at (nd_ne hnd 2 15 rfl rfl (by decide)) g_b2
                        have g_b3_ : M42 b3 = some (mI E 24 LN) := by rw [eM42]; exact mUp_at (nd_ne hnd 3 15 rfl rfl (by decide)) g_b3
                        have g_b4_ : M42 b4 = some (mI E 24 SZ) := by rw [eM42]; exact mUp_at (nd_ne hnd 4 15 rfl rfl (by decide)) g_b4
                        have g_b5_ : M42 b5 = some (mJ E 960 SM) := by rw [eM42]; exact mUp_at (nd_ne hnd 5 15 rfl rfl (by decide)) g_b5
                        have g_b6_ : M42 b6 = some (mI E 12 SO) := by rw [eM42]; exact mUp_at (nd_ne hnd 6 15 rfl rfl (by decide)) g_b6
                        have g_b7_ : M42 b7 = some (mI E 48 KN) := by rw [eM42]; exact mUp_at (nd_ne hnd 7 15 rfl rfl (by decide)) g_b7
                        have g_b8_ : M42 b8 = some (mI E 12 PI) := by rw [eM42]; exact mUp_at (nd_ne hnd 8 15 rfl rfl (by decide)) g_b8
                        have g_b9_ : M42 b9 = some (mZ E 12 ON) := by rw [eM42]; exact mUp_at (nd_ne hnd 9 15 rfl rfl (by decide)) g_b9
                        have g_b10_ : M42 b10 = some (mI E 12 (upd (upd PH j (sSt ci kf pi on (tb.map rw) ph le k9).1) j ((sSt ci kf pi on (tb.map rw) ph le k9).1 + 1))) := by rw [eM42]; exact mUp_at (nd_ne hnd 10 15 rfl rfl (by decide)) g_b10
                        have g_b11_ : M42 b11 = some (mDb E 12 (sLE ci (sLE ci LE j (sSt ci kf pi on (tb.map rw) ph le k9).2) j (sGive ci kf pi on (sSt ci kf pi on (tb.map rw) ph le k9).1 (sSt ci kf pi on (tb.map rw) ph le k9).2 (tb.map rw)).2.2)) := by rw [eM42]; exact mUp_at (nd_ne hnd 11 15 rfl rfl (by decide)) g_b11
                        have g_b12_ : M42 b12 = some (mI E 8 KD) := by rw [eM42]; exact mUp_at (nd_ne hnd 12 15 rfl rfl (by decide)) g_b12
                        have g_b13_ : M42 b13 = some (mI E 8 NM) := by rw [eM42]; exact mUp_at (nd_ne hnd 13 15 rfl rfl (by decide)) g_b13
                        have g_b14_ : M42 b14 = some (mI E 3 (upd CT 2 (c4 + nI (k9 + 1)))) := by rw [eM42]; exact mUp_at (nd_ne hnd 14 15 rfl rfl (by decide)) g_b14
                        have g_b16_ : M42 b16 = some (mJ E 40 MV) := by rw [eM42]; exact mUp_at (nd_ne hnd 16 15 rfl rfl (by decide)) g_b16
                        have g_y := g_y_
                        have g_b1 := g_b1_
                        have g_b2 := g_b2_
                        have g_b3 := g_b3_
                        have g_b4 := g_b4_
                        have g_b5 := g_b5_
                        have g_b6 := g_b6_
                        have g_b7 := g_b7_
                        have g_b8 := g_b8_
                        have g_b9 := g_b9_
                        have g_b10 := g_b10_
                        have g_b11 := g_b11_
                        have g_b12 := g_b12_
                        have g_b13 := g_b13_
                        have g_b14 := g_b14_
                        have g_b16 := g_b16_
                        have g_b15 : M42 b15 = some (mDb E 40 (vf_upd (vf_upd CM9 k9 (sGive ci kf pi on (sSt ci kf pi on (tb.map rw) ph le k9).1 (sSt ci kf pi on (tb.map rw) ph le k9).2 (tb.map rw)).2.1) k9 (sPass (fn q).1 (FP.i2d (fn q).2) ((sGive ci kf pi on (sSt ci kf pi on (tb.map rw) ph le k9).1 (sSt ci kf pi on (tb.map rw) ph le k9).2 (tb.map rw)).2.1)))) := by rw [eM42]; exact mUp_self _ _ _
                        have hk : kept (nol y b1 b2 b3 b4 b5 b6 b7 b8 b9 b10 b11 b12 b13 b14 b15 b16) M M42 := (by rw [eM42]; exact hk.up (nol_in 15 rfl))
                        refine lv_aload_n hx hb dX10_play_228 rfl (lv_at hl 3 rfl) ?_
                        refine m_get (ci := 8) (v := .int ((sGive ci kf pi on (sSt ci kf pi on (tb.map rw) ph le k9).1 (sSt ci kf pi on (tb.map rw) ph le k9).2 (tb.map rw)).1)) (C := RX10) (T := TX10) (N := 21) hx hb hts in_X10_play_X10 hown hE hM g_y rfl 17 (by decide) (hts (.fieldLink RX10 112 "CallWays2Model" "failure" "I") (by decide +kernel)) (fun _ h9 => h9) rfl dX10_play_229 ?_
                        refine lv_istore (lv' := [(8, .int ((sGive ci kf pi on (sSt ci kf pi on (tb.map rw) ph le k9).1 (sSt ci kf pi on (tb.map rw) ph le k9).2 (tb.map rw)).1)), (9, .int (nI k9)), (7, .int (nI w)), (0, .ref y), (1, .int (nI j)), (2, .int wy), (3, .int (nI q)), (4, .int b), (5, .int (nI a9)), (6, .int (nI kn))]) hx hb dX10_play_232 hl (by decide) rfl (fun ls hl => ?_)
                        refine lv_iinc (v := ((nI k9) + 1)) (lv' := [(9, .int ((nI k9) + 1)), (8, .int ((sGive ci kf pi on (sSt ci kf pi on (tb.map rw) ph le k9).1 (sSt ci kf pi on (tb.map rw) ph le k9).2 (tb.map rw)).1)), (7, .int (nI w)), (0, .ref y), (1, .int (nI j)), (2, .int wy), (3, .int (nI q)), (4, .int b), (5, .int (nI a9)), (6, .int (nI kn))]) hx hb dX10_play_234 hl (k := 1) rfl rfl (by decide) rfl (fun ls hl => ?_)
                        refine lv_goto (tgt := 163) hx hb dX10_play_237 (by decide) ?_
                        rw [nI_1, hg0] at hl
                        exact ih (k9 + 1) (vf_upd (vf_upd CM9 k9 (sGive ci kf pi on (sSt ci kf pi on (tb.map rw) ph le k9).1 (sSt ci kf pi on (tb.map rw) ph le k9).2 (tb.map rw)).2.1) k9 (sPass (fn q).1 (FP.i2d (fn q).2) ((sGive ci kf pi on (sSt ci kf pi on (tb.map rw) ph le k9).1 (sSt ci kf pi on (tb.map rw) ph le k9).2 (tb.map rw)).2.1))) ((sGive ci kf pi on (sSt ci kf pi on (tb.map rw) ph le k9).1 (sSt ci kf pi on (tb.map rw) ph le k9).2 (tb.map rw)).1) M42 ls _ _ (by omega) (by rw [hsg, go_y hg0 (by rw [efu2]; simp only [rfO]; exact (fun z => hrf (of_decide_eq_true z)))]) (fun z hz => (by by_cases hzk : z = k9; exact (by rw [hzk, vfu_s]; rw [efu2]; rfl); exact (by rw [vfu_o hzk, vfu_o hzk]; exact hCM z (by omega)))) (by rw [eM42, eM40, eM39, eM38, eM37, eMi, pen_c hd5, pen_tri hd5, pen_d, pen_y hd5, pen_d]; simp only [upd_up, sLE_up]; rfl) hM hS (lv_sub hl [0, 1, 2, 3, 4, 5, 6, 7, 8, 9] rfl)
                refine lv_iconst (v := 0) hx hb dX10_play_160 (by decide) ?_
                refine lv_istore (lv' := [(9, .int 0), (8, .int 0), (7, .int (nI w)), (0, .ref y), (1, .int (nI j)), (2, .int wy), (3, .int (nI q)), (4, .int b), (5, .int (nI a9)), (6, .int (nI kn))]) hx hb dX10_play_161 hl (by decide) rfl (fun ls hl => ?_)
                exact loop1 kn 0 CM fa M ls _ _ (by omega) rfl (fun z hz => absurd hz (by omega)) (by rw [show (sSt ci kf pi on (tb.map rw) ph le 0).1 = ph from rfl, show (sSt ci kf pi on (tb.map rw) ph le 0).2 = le from rfl, up_id hPh, sLE_id (fun z => hLe (Or.inr z)), show c4 + nI 0 = c4 from Int32.add_zero c4, up_id hc4]; exact (pen_id g_y g_b10 g_b11 g_b14 g_b15).symm) hM hS (lv_sub hl [0, 1, 2, 3, 4, 5, 6, 7, 8, 9] rfl)
              refine lv_iload_n hx hb dX10_play_72 rfl (lv_at hl 3 rfl) ?_
              refine lv_iconst (v := 1) hx hb dX10_play_73 (by decide) ?_
              refine lv_icmp_ne (tgt := 96) hx hb dX10_play_74 (by decide) (fun c_74 => ?_) (fun c_74 => ?_)
              · skip
                have hnk : ¬ (wy = 1 ∧ ¬ lane = bd) := na1 c_74
                refine lv_iload hx hb dX10_play_96 (lv_at hl 7 rfl) ?_
                refine lv_if_ge (tgt := 106) hx hb dX10_play_98 (by decide) (fun c_98 => ?_) (fun c_98 => ?_)
                · skip
                  have hkl := Int32.not_lt.mpr c_98
                  obtain ⟨kn, hkn, ekn⟩ := nI_of hkl
                  refine lv_iload hx hb dX10_play_106 (lv_at hl 6 rfl) ?_
                  refine lv_if_lt (tgt := 130) hx hb dX10_play_108 (by decide) (fun c_108 => ?_) (fun c_108 => ?_)
                  · skip
                    have hpf : plF bk rw bd b wy fr n = -7 := hpw.trans (sI_7 hnk hkl (fun z => z.1 c_108))
                    refine lv_bipush (v := -7) hx hb dX10_play_130 (by decide) ?_
                    refine lv_goto (tgt := 136) hx hb dX10_play_132 (by decide) ?_
                    refine lv_istore (lv' := [(8, .int (-7)), (7, .int (nI w)), (0, .ref y), (1, .int (nI j)), (2, .int wy), (3, .int (nI q)), (4, .int b), (5, .int fr), (6, .int n)]) hx hb dX10_play_136 hl (by decide) rfl (fun ls hl => ?_)
                    refine lv_iload hx hb dX10_play_138 (lv_at hl 0 rfl) ?_
                    refine lv_if_eq (tgt := 160) hx hb dX10_play_140 (by decide) (fun h9 => False.elim (by revert h9; exact (fun h => absurd h (by decide)))) (fun _ => ?_)
                    refine lv_aload_n hx hb dX10_play_143 rfl (lv_at hl 2 rfl) ?_
                    refine m_get (ci := 8) (v := .ref b14) (C := RX10) (T := TX10) (N := 21) hx hb hts in_X10_play_X10 hown hE hM g_y rfl 18 (by decide) (hts (.fieldLink RX10 52 "CallWays2Model" "counts" "[I") (by decide +kernel)) (fun _ h9 => h9) rfl dX10_play_144 ?_
                    refine lv_iconst (v := 1) hx hb dX10_play_147 (by decide) ?_
                    refine lv_dup2_11 hx hb dX10_play_148 rfl rfl ?_
                    refine m_iald hx hb hE hM g_b14 in3_1 dX10_play_149 ?_
                    rw [show CT (1 : Int32).toNatClampNeg = c3 from by show CT 1 = c3; exact hc3]
                    refine lv_iconst (v := 1) hx hb dX10_play_150 (by decide) ?_
                    refine lv_iadd hx hb dX10_play_151 ?_
                    refine m_iast hx hb hE hM hS g_b14 in3_1 dX10_play_152 (fun H locs hM hS => ?_)
                    rw [show upd CT (1 : Int32).toNatClampNeg (c3 + 1) = upd CT 1 (c3 + 1) from rfl] at hM
                    have hM : mOK E.1 (mA M sz) (mUp M b14 (mI E 3 (upd CT 1 (c3 + 1)))) H := hM
                    obtain ⟨M43, eM43⟩ : ∃ z, z = mUp M b14 (mI E 3 (upd CT 1 (c3 + 1))) := ⟨_, rfl⟩
                    rw [← eM43] at hM
                    have g_y_ : M43 y = some (mO 8 [.ref b1, .ref b2, .ref b3, .ref b4, .ref b5, .int (nI nn), .ref b6, .ref b7, .ref b8, .ref b9, .ref b10, .ref b11, .int (nI nf), .ref b12, .ref b13, .int bd, .int st, .int fa, .ref b14, .ref b15, .ref b16]) := by rw [eM43]; exact mUp_at (nd_ne hnd 0 14 rfl rfl (by decide)) g_y
                    have g_b1_ : M43 b1 = some (mI E 10 B) := by rw [eM43]; exact mUp_at (nd_ne hnd 1 14 rfl rfl (by decide)) g_b1
                    have g_b2_ : M43 b2 = some (mI E 12 T) := by rw [eM43]; exact mUp_at (nd_ne hnd 2 14 rfl rfl (by decide)) g_b2
                    have g_b3_ : M43 b3 = some (mI E 24 LN) := by rw [eM43]; exact mUp_at (nd_ne hnd 3 14 rfl rfl (by decide)) g_b3
                    have g_b4_ : M43 b4 = some (mI E 24 SZ) := by rw [eM43]; exact mUp_at (nd_ne hnd 4 14 rfl rfl (by decide)) g_b4
                    have g_b5_ : M43 b5 = some (mJ E 960 SM) := by rw [eM43]; exact mUp_at (nd_ne hnd 5 14 rfl rfl (by decide)) g_b5
                    have g_b6_ : M43 b6 = some (mI E 12 SO) := by rw [eM43]; exact mUp_at (nd_ne hnd 6 14 rfl rfl (by decide)) g_b6
                    have g_b7_ : M43 b7 = some (mI E 48 KN) := by rw [eM43]; exact mUp_at (nd_ne hnd 7 14 rfl rfl (by decide)) g_b7
                    have g_b8_ : M43 b8 = some (mI E 12 PI) := by rw [eM43]; exact mUp_at (nd_ne hnd 8 14 rfl rfl (by decide)) g_b8
                    have g_b9_ : M43 b9 = some (mZ E 12 ON) := by rw [eM43]; exact mUp_at (nd_ne hnd 9 14 rfl rfl (by decide)) g_b9
                    have g_b10_ : M43 b10 = some (mI E 12 PH) := by rw [eM43]; exact mUp_at (nd_ne hnd 10 14 rfl rfl (by decide)) g_b10
                    have g_b11_ : M43 b11 = some (mDb E 12 LE) := by rw [eM43]; exact mUp_at (nd_ne hnd 11 14 rfl rfl (by decide)) g_b11
                    have g_b12_ : M43 b12 = some (mI E 8 KD) := by rw [eM43]; exact mUp_at (nd_ne hnd 12 14 rfl rfl (by decide)) g_b12
                    have g_b13_ : M43 b13 = some (mI E 8 NM) := by rw [eM43]; exact mUp_at (nd_ne hnd 13 14 rfl rfl (by decide)) g_b13
                    have g_b15_ : M43 b15 = some (mDb E 40 CM) := by rw [eM43]; exact mUp_at (nd_ne hnd 15 14 rfl rfl (by decide)) g_b15
                    have g_b16_ : M43 b16 = some (mJ E 40 MV) := by rw [eM43]; exact mUp_at (nd_ne hnd 16 14 rfl rfl (by decide)) g_b16
                    have g_y := g_y_
                    have g_b1 := g_b1_
                    have g_b2 := g_b2_
                    have g_b3 := g_b3_
                    have g_b4 := g_b4_
                    have g_b5 := g_b5_
                    have g_b6 := g_b6_
                    have g_b7 := g_b7_
                    have g_b8 := g_b8_
                    have g_b9 := g_b9_
                    have g_b10 := g_b10_
                    have g_b11 := g_b11_
                    have g_b12 := g_b12_
                    have g_b13 := g_b13_
                    have g_b15 := g_b15_
                    have g_b16 := g_b16_
                    have g_b14 : M43 b14 = some (mI E 3 (upd CT 1 (c3 + 1))) := by rw [eM43]; exact mUp_self _ _ _
                    have hk : kept (nol y b1 b2 b3 b4 b5 b6 b7 b8 b9 b10 b11 b12 b13 b14 b15 b16) M M43 := (by rw [eM43]; exact hk.up (nol_in 14 rfl))
                    refine lv_aload_n hx hb dX10_play_153 rfl (lv_at hl 2 rfl) ?_
                    refine lv_iload hx hb dX10_play_154 (lv_at hl 0 rfl) ?_
                    refine m_calli (va_runV (As := [.int (-7 : Int32)]) (rest := []) ⟨hx, hb, hml, hown, hts⟩ (c_X10_says l E M43 H.size y b1 b2 b3 b4 b5 b6 b7 b8 b9 b10 b11 b12 b13 b14 b15 b16 (nI nn) (nI nf) bd st fa (-7 : Int32) g_y) (cwV 1 hts gX10_play_X10_says rfl rfl rfl (by decide +kernel) ⟨Nat.le_of_ble_eq_true rfl, Nat.le_of_ble_eq_true rfl⟩) (m_preV hE hM g_y rfl) rfl rfl hl.1 rfl (lv_room (Nat.le_of_ble_eq_true rfl)) dX10_play_156 ⟨Nat.le_of_ble_eq_true rfl, Nat.le_of_ble_eq_true rfl⟩) hM hS hA (fun r2 M44 H locs hw hM hS => ?_)
                    obtain ⟨e_r2, eM44⟩ := hw
                    subst e_r2
                    have g_b1_ : M44 b1 = some (mI E 10 B) := by rw [eM44]; exact mUp_at (nd_ne hnd 1 0 rfl rfl (by decide)) g_b1
                    have g_b2_ : M44 b2 = some (mI E 12 T) := by rw [eM44]; exact mUp_at (nd_ne hnd 2 0 rfl rfl (by decide)) g_b2
                    have g_b3_ : M44 b3 = some (mI E 24 LN) := by rw [eM44]; exact mUp_at (nd_ne hnd 3 0 rfl rfl (by decide)) g_b3
                    have g_b4_ : M44 b4 = some (mI E 24 SZ) := by rw [eM44]; exact mUp_at (nd_ne hnd 4 0 rfl rfl (by decide)) g_b4
                    have g_b5_ : M44 b5 = some (mJ E 960 SM) := by rw [eM44]; exact mUp_at (nd_ne hnd 5 0 rfl rfl (by decide)) g_b5
                    have g_b6_ : M44 b6 = some (mI E 12 SO) := by rw [eM44]; exact mUp_at (nd_ne hnd 6 0 rfl rfl (by decide)) g_b6
                    have g_b7_ : M44 b7 = some (mI E 48 KN) := by rw [eM44]; exact mUp_at (nd_ne hnd 7 0 rfl rfl (by decide)) g_b7
                    have g_b8_ : M44 b8 = some (mI E 12 PI) := by rw [eM44]; exact mUp_at (nd_ne hnd 8 0 rfl rfl (by decide)) g_b8
                    have g_b9_ : M44 b9 = some (mZ E 12 ON) := by rw [eM44]; exact mUp_at (nd_ne hnd 9 0 rfl rfl (by decide)) g_b9
                    have g_b10_ : M44 b10 = some (mI E 12 PH) := by rw [eM44]; exact mUp_at (nd_ne hnd 10 0 rfl rfl (by decide)) g_b10
                    have g_b11_ : M44 b11 = some (mDb E 12 LE) := by rw [eM44]; exact mUp_at (nd_ne hnd 11 0 rfl rfl (by decide)) g_b11
                    have g_b12_ : M44 b12 = some (mI E 8 KD) := by rw [eM44]; exact mUp_at (nd_ne hnd 12 0 rfl rfl (by decide)) g_b12
                    have g_b13_ : M44 b13 = some (mI E 8 NM) := by rw [eM44]; exact mUp_at (nd_ne hnd 13 0 rfl rfl (by decide)) g_b13
                    have g_b14_ : M44 b14 = some (mI E 3 (upd CT 1 (c3 + 1))) := by rw [eM44]; exact mUp_at (nd_ne hnd 14 0 rfl rfl (by decide)) g_b14
                    have g_b15_ : M44 b15 = some (mDb E 40 CM) := by rw [eM44]; exact mUp_at (nd_ne hnd 15 0 rfl rfl (by decide)) g_b15
                    have g_b16_ : M44 b16 = some (mJ E 40 MV) := by rw [eM44]; exact mUp_at (nd_ne hnd 16 0 rfl rfl (by decide)) g_b16
                    have g_b1 := g_b1_
                    have g_b2 := g_b2_
                    have g_b3 := g_b3_
                    have g_b4 := g_b4_
                    have g_b5 := g_b5_
                    have g_b6 := g_b6_
                    have g_b7 := g_b7_
                    have g_b8 := g_b8_
                    have g_b9 := g_b9_
                    have g_b10 := g_b10_
                    have g_b11 := g_b11_
                    have g_b12 := g_b12_
                    have g_b13 := g_b13_
                    have g_b14 := g_b14_
                    have g_b15 := g_b15_
                    have g_b16 := g_b16_
                    have g_y : M44 y = some (mO 8 [.ref b1, .ref b2, .ref b3, .ref b4, .ref b5, .int (nI nn), .ref b6, .ref b7, .ref b8, .ref b9, .ref b10, .ref b11, .int (nI nf), .ref b12, .ref b13, .int bd, .int (if (-7 : Int32) < 0 then (-7 : Int32) else 0), .int fa, .ref b14, .ref b15, .ref b16]) := by rw [eM44]; exact mUp_self _ _ _
                    have hk : kept (nol y b1 b2 b3 b4 b5 b6 b7 b8 b9 b10 b11 b12 b13 b14 b15 b16) M M44 := (by rw [eM44]; exact hk.up (nol_in 0 rfl))
                    rw [if_pos (show (-7 : Int32) < 0 by decide)] at g_y
                    exact m_iret hx hb hr hlocks hM hS (Nat.le_refl _) (Nat.le_refl _) dX10_play_159 (by refine ⟨(by show _ = (if vPl nn nf (nI j) wy (nI q) b then (if plF bk rw bd b wy fr n = 0 then _ else plF bk rw bd b wy fr n) else -1); rw [if_pos hvp, hpf]; rfl), ?_, hk⟩; show mR E _ y b1 b2 b3 b4 b5 b6 b7 b8 b9 b10 b11 b12 b13 b14 b15 b16 (if vPl nn nf (nI j) wy (nI q) b then (if plF bk rw bd b wy fr n = 0 then _ else (nn, ins, nf, fn, bk, rw, bd, plF bk rw bd b wy fr n, c2, c3 + 1, c4)) else _); rw [if_pos hvp, hpf]; rw [if_neg (by decide)]; exact ⟨_, _, _, _, _, _, _, _, _, _, _, _, _, _, _, _, _, ⟨g_y, g_b1, g_b2, g_b3, g_b4, g_b5, g_b6, g_b7, g_b8, g_b9, g_b10, g_b11, g_b12, g_b13, g_b14, g_b15, g_b16⟩, hB, hT, hR, hN, hF, (by show upd CT 1 (c3 + 1) 0 = c2; rw [upd_o (by decide)]; exact hc2), upd_s, (by show upd CT 1 (c3 + 1) 2 = c4; rw [upd_o (by decide)]; exact hc4)⟩)
                  · skip
                    obtain ⟨a9, ha9, ea9⟩ := nI_of c_108
                    refine lv_iload hx hb dX10_play_111 (lv_at hl 6 rfl) ?_
                    refine lv_i2l hx hb dX10_play_113 rfl ?_
                    refine lv_iload hx hb dX10_play_114 (lv_at hl 7 rfl) ?_
                    refine lv_i2l hx hb dX10_play_116 rfl ?_
                    refine lv_ladd hx hb dX10_play_117 ?_
                    refine lv_aload_n hx hb dX10_play_118 rfl (lv_at hl 1 rfl) ?_
                    refine m_get (ci := 8) (v := .ref b4) (C := RX10) (T := TX10) (N := 21) hx hb hts in_X10_play_X10 hown hE hM g_y rfl 3 (by decide) (hts (.fieldLink RX10 19 "CallWays2Model" "sizeOf" "[I") (by decide +kernel)) (fun _ h9 => h9) rfl dX10_play_119 ?_
                    refine lv_iload hx hb dX10_play_122 (lv_at hl 0 rfl) ?_
                    refine m_iald hx hb hE hM g_b4 (vp_in_nI hw24 (by decide)) dX10_play_124 ?_
                    rw [show SZ (nI w).toNatClampNeg = nI n0 from by rw [nI_clamp (by omega), hSz]]
                    refine lv_i2l hx hb dX10_play_125 rfl ?_
                    refine W.lcmp hx hb dX10_play_126 ?_
                    refine lv_if_le (tgt := 135) hx hb dX10_play_127 (by decide) (fun c_127 => ?_) (fun c_127 => ?_)
                    · skip
                      replace c_127 := Int32.not_lt.mpr c_127
                      rw [ea9, ekn, lsum (by omega) ha9 hkn, Classical.not_not] at c_127
                      have hspn : spn n0 fr n := (by rw [ea9, ekn]; exact (spn_iff (by omega) ha9 hkn).mpr c_127)
                      have hpf : plF bk rw bd b wy fr n = 0 := hpw.trans (sI_0 hnk hkl hspn)
                      refine lv_iconst (v := 0) hx hb dX10_play_135 (by decide) ?_
                      refine lv_istore (lv' := [(8, .int 0), (7, .int (nI w)), (0, .ref y), (1, .int (nI j)), (2, .int wy), (3, .int (nI q)), (4, .int b), (5, .int fr), (6, .int n)]) hx hb dX10_play_136 hl (by decide) rfl (fun ls hl => ?_)
                      refine lv_iload hx hb dX10_play_138 (lv_at hl 0 rfl) ?_
                      refine lv_if_eq (tgt := 160) hx hb dX10_play_140 (by decide) (fun _ => ?_) (fun h9 => False.elim (by revert h9; exact (fun h => h rfl)))
                      exact core hpf hspn ls (lv_sub hl [0, 1, 2, 3, 4, 5, 6, 7, 8] rfl)
                    · skip
                      replace c_127 := Int32.not_le.mp c_127
                      rw [ea9, ekn, lsum (by omega) ha9 hkn] at c_127
                      have hpf : plF bk rw bd b wy fr n = -7 := hpw.trans (sI_7 hnk hkl (fun z => c_127 ((spn_iff (by omega) ha9 hkn).mp (by rw [← ea9, ← ekn]; exact z))))
                      refine lv_bipush (v := -7) hx hb dX10_play_130 (by decide) ?_
                      refine lv_goto (tgt := 136) hx hb dX10_play_132 (by decide) ?_
                      refine lv_istore (lv' := [(8, .int (-7)), (7, .int (nI w)), (0, .ref y), (1, .int (nI j)), (2, .int wy), (3, .int (nI q)), (4, .int b), (5, .int fr), (6, .int n)]) hx hb dX10_play_136 hl (by decide) rfl (fun ls hl => ?_)
                      refine lv_iload hx hb dX10_play_138 (lv_at hl 0 rfl) ?_
                      refine lv_if_eq (tgt := 160) hx hb dX10_play_140 (by decide) (fun h9 => False.elim (by revert h9; exact (fun h => absurd h (by decide)))) (fun _ => ?_)
                      refine lv_aload_n hx hb dX10_play_143 rfl (lv_at hl 2 rfl) ?_
                      refine m_get (ci := 8) (v := .ref b14) (C := RX10) (T := TX10) (N := 21) hx hb hts in_X10_play_X10 hown hE hM g_y rfl 18 (by decide) (hts (.fieldLink RX10 52 "CallWays2Model" "counts" "[I") (by decide +kernel)) (fun _ h9 => h9) rfl dX10_play_144 ?_
                      refine lv_iconst (v := 1) hx hb dX10_play_147 (by decide) ?_
                      refine lv_dup2_11 hx hb dX10_play_148 rfl rfl ?_
                      refine m_iald hx hb hE hM g_b14 in3_1 dX10_play_149 ?_
                      rw [show CT (1 : Int32).toNatClampNeg = c3 from by show CT 1 = c3; exact hc3]
                      refine lv_iconst (v := 1) hx hb dX10_play_150 (by decide) ?_
                      refine lv_iadd hx hb dX10_play_151 ?_
                      refine m_iast hx hb hE hM hS g_b14 in3_1 dX10_play_152 (fun H locs hM hS => ?_)
                      rw [show upd CT (1 : Int32).toNatClampNeg (c3 + 1) = upd CT 1 (c3 + 1) from rfl] at hM
                      have hM : mOK E.1 (mA M sz) (mUp M b14 (mI E 3 (upd CT 1 (c3 + 1)))) H := hM
                      obtain ⟨M45, eM45⟩ : ∃ z, z = mUp M b14 (mI E 3 (upd CT 1 (c3 + 1))) := ⟨_, rfl⟩
                      rw [← eM45] at hM
                      have g_y_ : M45 y = some (mO 8 [.ref b1, .ref b2, .ref b3, .ref b4, .ref b5, .int (nI nn), .ref b6, .ref b7, .ref b8, .ref b9, .ref b10, .ref b11, .int (nI nf), .ref b12, .ref b13, .int bd, .int st, .int fa, .ref b14, .ref b15, .ref b16]) := by rw [eM45]; exact mUp_at (nd_ne hnd 0 14 rfl rfl (by decide)) g_y
                      have g_b1_ : M45 b1 = some (mI E 10 B) := by rw [eM45]; exact mUp_at (nd_ne hnd 1 14 rfl rfl (by decide)) g_b1
                      have g_b2_ : M45 b2 = some (mI E 12 T) := by rw [eM45]; exact mUp_at (nd_ne hnd 2 14 rfl rfl (by decide)) g_b2
                      have g_b3_ : M45 b3 = some (mI E 24 LN) := by rw [eM45]; exact mUp_at (nd_ne hnd 3 14 rfl rfl (by decide)) g_b3
                      have g_b4_ : M45 b4 = some (mI E 24 SZ) := by rw [eM45]; exact mUp_at (nd_ne hnd 4 14 rfl rfl (by decide)) g_b4
                      have g_b5_ : M45 b5 = some (mJ E 960 SM) := by rw [eM45]; exact mUp_at (nd_ne hnd 5 14 rfl rfl (by decide)) g_b5
                      have g_b6_ : M45 b6 = some (mI E 12 SO) := by rw [eM45]; exact mUp_at (nd_ne hnd 6 14 rfl rfl (by decide)) g_b6
                      have g_b7_ : M45 b7 = some (mI E 48 KN) := by rw [eM45]; exact mUp_at (nd_ne hnd 7 14 rfl rfl (by decide)) g_b7
                      have g_b8_ : M45 b8 = some (mI E 12 PI) := by rw [eM45]; exact mUp_at (nd_ne hnd 8 14 rfl rfl (by decide)) g_b8
                      have g_b9_ : M45 b9 = some (mZ E 12 ON) := by rw [eM45]; exact mUp_at (nd_ne hnd 9 14 rfl rfl (by decide)) g_b9
                      have g_b10_ : M45 b10 = some (mI E 12 PH) := by rw [eM45]; exact mUp_at (nd_ne hnd 10 14 rfl rfl (by decide)) g_b10
                      have g_b11_ : M45 b11 = some (mDb E 12 LE) := by rw [eM45]; exact mUp_at (nd_ne hnd 11 14 rfl rfl (by decide)) g_b11
                      have g_b12_ : M45 b12 = some (mI E 8 KD) := by rw [eM45]; exact mUp_at (nd_ne hnd 12 14 rfl rfl (by decide)) g_b12
                      have g_b13_ : M45 b13 = some (mI E 8 NM) := by rw [eM45]; exact mUp_at (nd_ne hnd 13 14 rfl rfl (by decide)) g_b13
                      have g_b15_ : M45 b15 = some (mDb E 40 CM) := by rw [eM45]; exact mUp_at (nd_ne hnd 15 14 rfl rfl (by decide)) g_b15
                      have g_b16_ : M45 b16 = some (mJ E 40 MV) := by rw [eM45]; exact mUp_at (nd_ne hnd 16 14 rfl rfl (by decide)) g_b16
                      have g_y := g_y_
                      have g_b1 := g_b1_
                      have g_b2 := g_b2_
                      have g_b3 := g_b3_
                      have g_b4 := g_b4_
                      have g_b5 := g_b5_
                      have g_b6 := g_b6_
                      have g_b7 := g_b7_
                      have g_b8 := g_b8_
                      have g_b9 := g_b9_
                      have g_b10 := g_b10_
                      have g_b11 := g_b11_
                      have g_b12 := g_b12_
                      have g_b13 := g_b13_
                      have g_b15 := g_b15_
                      have g_b16 := g_b16_
                      have g_b14 : M45 b14 = some (mI E 3 (upd CT 1 (c3 + 1))) := by rw [eM45]; exact mUp_self _ _ _
                      have hk : kept (nol y b1 b2 b3 b4 b5 b6 b7 b8 b9 b10 b11 b12 b13 b14 b15 b16) M M45 := (by rw [eM45]; exact hk.up (nol_in 14 rfl))
                      refine lv_aload_n hx hb dX10_play_153 rfl (lv_at hl 2 rfl) ?_
                      refine lv_iload hx hb dX10_play_154 (lv_at hl 0 rfl) ?_
                      refine m_calli (va_runV (As := [.int (-7 : Int32)]) (rest := []) ⟨hx, hb, hml, hown, hts⟩ (c_X10_says l E M45 H.size y b1 b2 b3 b4 b5 b6 b7 b8 b9 b10 b11 b12 b13 b14 b15 b16 (nI nn) (nI nf) bd st fa (-7 : Int32) g_y) (cwV 1 hts gX10_play_X10_says rfl rfl rfl (by decide +kernel) ⟨Nat.le_of_ble_eq_true rfl, Nat.le_of_ble_eq_true rfl⟩) (m_preV hE hM g_y rfl) rfl rfl hl.1 rfl (lv_room (Nat.le_of_ble_eq_true rfl)) dX10_play_156 ⟨Nat.le_of_ble_eq_true rfl, Nat.le_of_ble_eq_true rfl⟩) hM hS hA (fun r2 M46 H locs hw hM hS => ?_)
                      obtain ⟨e_r2, eM46⟩ := hw
                      subst e_r2
                      have g_b1_ : M46 b1 = some (mI E 10 B) := by rw [eM46]; exact mUp_at (nd_ne hnd 1 0 rfl rfl (by decide)) g_b1
                      have g_b2_ : M46 b2 = some (mI E 12 T) := by rw [eM46]; exact mUp_at (nd_ne hnd 2 0 rfl rfl (by decide)) g_b2
                      have g_b3_ : M46 b3 = some (mI E 24 LN) := by rw [eM46]; exact mUp_at (nd_ne hnd 3 0 rfl rfl (by decide)) g_b3
                      have g_b4_ : M46 b4 = some (mI E 24 SZ) := by rw [eM46]; exact mUp_at (nd_ne hnd 4 0 rfl rfl (by decide)) g_b4
                      have g_b5_ : M46 b5 = some (mJ E 960 SM) := by rw [eM46]; exact mUp_at (nd_ne hnd 5 0 rfl rfl (by decide)) g_b5
                      have g_b6_ : M46 b6 = some (mI E 12 SO) := by rw [eM46]; exact mUp_at (nd_ne hnd 6 0 rfl rfl (by decide)) g_b6
                      have g_b7_ : M46 b7 = some (mI E 48 KN) := by rw [eM46]; exact mUp_at (nd_ne hnd 7 0 rfl rfl (by decide)) g_b7
                      have g_b8_ : M46 b8 = some (mI E 12 PI) := by rw [eM46]; exact mUp_at (nd_ne hnd 8 0 rfl rfl (by decide)) g_b8
                      have g_b9_ : M46 b9 = some (mZ E 12 ON) := by rw [eM46]; exact mUp_at (nd_ne hnd 9 0 rfl rfl (by decide)) g_b9
                      have g_b10_ : M46 b10 = some (mI E 12 PH) := by rw [eM46]; exact mUp_at (nd_ne hnd 10 0 rfl rfl (by decide)) g_b10
                      have g_b11_ : M46 b11 = some (mDb E 12 LE) := by rw [eM46]; exact mUp_at (nd_ne hnd 11 0 rfl rfl (by decide)) g_b11
                      have g_b12_ : M46 b12 = some (mI E 8 KD) := by rw [eM46]; exact mUp_at (nd_ne hnd 12 0 rfl rfl (by decide)) g_b12
                      have g_b13_ : M46 b13 = some (mI E 8 NM) := by rw [eM46]; exact mUp_at (nd_ne hnd 13 0 rfl rfl (by decide)) g_b13
                      have g_b14_ : M46 b14 = some (mI E 3 (upd CT 1 (c3 + 1))) := by rw [eM46]; exact mUp_at (nd_ne hnd 14 0 rfl rfl (by decide)) g_b14
                      have g_b15_ : M46 b15 = some (mDb E 40 CM) := by rw [eM46]; exact mUp_at (nd_ne hnd 15 0 rfl rfl (by decide)) g_b15
                      have g_b16_ : M46 b16 = some (mJ E 40 MV) := by rw [eM46]; exact mUp_at (nd_ne hnd 16 0 rfl rfl (by decide)) g_b16
                      have g_b1 := g_b1_
                      have g_b2 := g_b2_
                      have g_b3 := g_b3_
                      have g_b4 := g_b4_
                      have g_b5 := g_b5_
                      have g_b6 := g_b6_
                      have g_b7 := g_b7_
                      have g_b8 := g_b8_
                      have g_b9 := g_b9_
                      have g_b10 := g_b10_
                      have g_b11 := g_b11_
                      have g_b12 := g_b12_
                      have g_b13 := g_b13_
                      have g_b14 := g_b14_
                      have g_b15 := g_b15_
                      have g_b16 := g_b16_
                      have g_y : M46 y = some (mO 8 [.ref b1, .ref b2, .ref b3, .ref b4, .ref b5, .int (nI nn), .ref b6, .ref b7, .ref b8, .ref b9, .ref b10, .ref b11, .int (nI nf), .ref b12, .ref b13, .int bd, .int (if (-7 : Int32) < 0 then (-7 : Int32) else 0), .int fa, .ref b14, .ref b15, .ref b16]) := by rw [eM46]; exact mUp_self _ _ _
                      have hk : kept (nol y b1 b2 b3 b4 b5 b6 b7 b8 b9 b10 b11 b12 b13 b14 b15 b16) M M46 := (by rw [eM46]; exact hk.up (nol_in 0 rfl))
                      rw [if_pos (show (-7 : Int32) < 0 by decide)] at g_y
                      exact m_iret hx hb hr hlocks hM hS (Nat.le_refl _) (Nat.le_refl _) dX10_play_159 (by refine ⟨(by show _ = (if vPl nn nf (nI j) wy (nI q) b then (if plF bk rw bd b wy fr n = 0 then _ else plF bk rw bd b wy fr n) else -1); rw [if_pos hvp, hpf]; rfl), ?_, hk⟩; show mR E _ y b1 b2 b3 b4 b5 b6 b7 b8 b9 b10 b11 b12 b13 b14 b15 b16 (if vPl nn nf (nI j) wy (nI q) b then (if plF bk rw bd b wy fr n = 0 then _ else (nn, ins, nf, fn, bk, rw, bd, plF bk rw bd b wy fr n, c2, c3 + 1, c4)) else _); rw [if_pos hvp, hpf]; rw [if_neg (by decide)]; exact ⟨_, _, _, _, _, _, _, _, _, _, _, _, _, _, _, _, _, ⟨g_y, g_b1, g_b2, g_b3, g_b4, g_b5, g_b6, g_b7, g_b8, g_b9, g_b10, g_b11, g_b12, g_b13, g_b14, g_b15, g_b16⟩, hB, hT, hR, hN, hF, (by show upd CT 1 (c3 + 1) 0 = c2; rw [upd_o (by decide)]; exact hc2), upd_s, (by show upd CT 1 (c3 + 1) 2 = c4; rw [upd_o (by decide)]; exact hc4)⟩)
                · skip
                  have hpf : plF bk rw bd b wy fr n = -8 := hpw.trans (sI_8 hnk (Int32.not_le.mp c_98))
                  refine lv_bipush (v := -8) hx hb dX10_play_101 (by decide) ?_
                  refine lv_goto (tgt := 136) hx hb dX10_play_103 (by decide) ?_
                  refine lv_istore (lv' := [(8, .int (-8)), (7, .int (nI w)), (0, .ref y), (1, .int (nI j)), (2, .int wy), (3, .int (nI q)), (4, .int b), (5, .int fr), (6, .int n)]) hx hb dX10_play_136 hl (by decide) rfl (fun ls hl => ?_)
                  refine lv_iload hx hb dX10_play_138 (lv_at hl 0 rfl) ?_
                  refine lv_if_eq (tgt := 160) hx hb dX10_play_140 (by decide) (fun h9 => False.elim (by revert h9; exact (fun h => absurd h (by decide)))) (fun _ => ?_)
                  refine lv_aload_n hx hb dX10_play_143 rfl (lv_at hl 2 rfl) ?_
                  refine m_get (ci := 8) (v := .ref b14) (C := RX10) (T := TX10) (N := 21) hx hb hts in_X10_play_X10 hown hE hM g_y rfl 18 (by decide) (hts (.fieldLink RX10 52 "CallWays2Model" "counts" "[I") (by decide +kernel)) (fun _ h9 => h9) rfl dX10_play_144 ?_
                  refine lv_iconst (v := 1) hx hb dX10_play_147 (by decide) ?_
                  refine lv_dup2_11 hx hb dX10_play_148 rfl rfl ?_
                  refine m_iald hx hb hE hM g_b14 in3_1 dX10_play_149 ?_
                  rw [show CT (1 : Int32).toNatClampNeg = c3 from by show CT 1 = c3; exact hc3]
                  refine lv_iconst (v := 1) hx hb dX10_play_150 (by decide) ?_
                  refine lv_iadd hx hb dX10_play_151 ?_
                  refine m_iast hx hb hE hM hS g_b14 in3_1 dX10_play_152 (fun H locs hM hS => ?_)
                  rw [show upd CT (1 : Int32).toNatClampNeg (c3 + 1) = upd CT 1 (c3 + 1) from rfl] at hM
                  have hM : mOK E.1 (mA M sz) (mUp M b14 (mI E 3 (upd CT 1 (c3 + 1)))) H := hM
                  obtain ⟨M47, eM47⟩ : ∃ z, z = mUp M b14 (mI E 3 (upd CT 1 (c3 + 1))) := ⟨_, rfl⟩
                  rw [← eM47] at hM
                  have g_y_ : M47 y = some (mO 8 [.ref b1, .ref b2, .ref b3, .ref b4, .ref b5, .int (nI nn), .ref b6, .ref b7, .ref b8, .ref b9, .ref b10, .ref b11, .int (nI nf), .ref b12, .ref b13, .int bd, .int st, .int fa, .ref b14, .ref b15, .ref b16]) := by rw [eM47]; exact mUp_at (nd_ne hnd 0 14 rfl rfl (by decide)) g_y
                  have g_b1_ : M47 b1 = some (mI E 10 B) := by rw [eM47]; exact mUp_at (nd_ne hnd 1 14 rfl rfl (by decide)) g_b1
                  have g_b2_ : M47 b2 = some (mI E 12 T) := by rw [eM47]; exact mUp_at (nd_ne hnd 2 14 rfl rfl (by decide)) g_b2
                  have g_b3_ : M47 b3 = some (mI E 24 LN) := by rw [eM47]; exact mUp_at (nd_ne hnd 3 14 rfl rfl (by decide)) g_b3
                  have g_b4_ : M47 b4 = some (mI E 24 SZ) := by rw [eM47]; exact mUp_at (nd_ne hnd 4 14 rfl rfl (by decide)) g_b4
                  have g_b5_ : M47 b5 = some (mJ E 960 SM) := by rw [eM47]; exact mUp_at (nd_ne hnd 5 14 rfl rfl (by decide)) g_b5
                  have g_b6_ : M47 b6 = some (mI E 12 SO) := by rw [eM47]; exact mUp_at (nd_ne hnd 6 14 rfl rfl (by decide)) g_b6
                  have g_b7_ : M47 b7 = some (mI E 48 KN) := by rw [eM47]; exact mUp_at (nd_ne hnd 7 14 rfl rfl (by decide)) g_b7
                  have g_b8_ : M47 b8 = some (mI E 12 PI) := by rw [eM47]; exact mUp_at (nd_ne hnd 8 14 rfl rfl (by decide)) g_b8
                  have g_b9_ : M47 b9 = some (mZ E 12 ON) := by rw [eM47]; exact mUp_at (nd_ne hnd 9 14 rfl rfl (by decide)) g_b9
                  have g_b10_ : M47 b10 = some (mI E 12 PH) := by rw [eM47]; exact mUp_at (nd_ne hnd 10 14 rfl rfl (by decide)) g_b10
                  have g_b11_ : M47 b11 = some (mDb E 12 LE) := by rw [eM47]; exact mUp_at (nd_ne hnd 11 14 rfl rfl (by decide)) g_b11
                  have g_b12_ : M47 b12 = some (mI E 8 KD) := by rw [eM47]; exact mUp_at (nd_ne hnd 12 14 rfl rfl (by decide)) g_b12
                  have g_b13_ : M47 b13 = some (mI E 8 NM) := by rw [eM47]; exact mUp_at (nd_ne hnd 13 14 rfl rfl (by decide)) g_b13
                  have g_b15_ : M47 b15 = some (mDb E 40 CM) := by rw [eM47]; exact mUp_at (nd_ne hnd 15 14 rfl rfl (by decide)) g_b15
                  have g_b16_ : M47 b16 = some (mJ E 40 MV) := by rw [eM47]; exact mUp_at (nd_ne hnd 16 14 rfl rfl (by decide)) g_b16
                  have g_y := g_y_
                  have g_b1 := g_b1_
                  have g_b2 := g_b2_
                  have g_b3 := g_b3_
                  have g_b4 := g_b4_
                  have g_b5 := g_b5_
                  have g_b6 := g_b6_
                  have g_b7 := g_b7_
                  have g_b8 := g_b8_
                  have g_b9 := g_b9_
                  have g_b10 := g_b10_
                  have g_b11 := g_b11_
                  have g_b12 := g_b12_
                  have g_b13 := g_b13_
                  have g_b15 := g_b15_
                  have g_b16 := g_b16_
                  have g_b14 : M47 b14 = some (mI E 3 (upd CT 1 (c3 + 1))) := by rw [eM47]; exact mUp_self _ _ _
                  have hk : kept (nol y b1 b2 b3 b4 b5 b6 b7 b8 b9 b10 b11 b12 b13 b14 b15 b16) M M47 := (by rw [eM47]; exact hk.up (nol_in 14 rfl))
                  refine lv_aload_n hx hb dX10_play_153 rfl (lv_at hl 2 rfl) ?_
                  refine lv_iload hx hb dX10_play_154 (lv_at hl 0 rfl) ?_
                  refine m_calli (va_runV (As := [.int (-8 : Int32)]) (rest := []) ⟨hx, hb, hml, hown, hts⟩ (c_X10_says l E M47 H.size y b1 b2 b3 b4 b5 b6 b7 b8 b9 b10 b11 b12 b13 b14 b15 b16 (nI nn) (nI nf) bd st fa (-8 : Int32) g_y) (cwV 1 hts gX10_play_X10_says rfl rfl rfl (by decide +kernel) ⟨Nat.le_of_ble_eq_true rfl, Nat.le_of_ble_eq_true rfl⟩) (m_preV hE hM g_y rfl) rfl rfl hl.1 rfl (lv_room (Nat.le_of_ble_eq_true rfl)) dX10_play_156 ⟨Nat.le_of_ble_eq_true rfl, Nat.le_of_ble_eq_true rfl⟩) hM hS hA (fun r2 M48 H locs hw hM hS => ?_)
                  obtain ⟨e_r2, eM48⟩ := hw
                  subst e_r2
                  have g_b1_ : M48 b1 = some (mI E 10 B) := by rw [eM48]; exact mUp_at (nd_ne hnd 1 0 rfl rfl (by decide)) g_b1
                  have g_b2_ : M48 b2 = some (mI E 12 T) := by rw [eM48]; exact mUp_at (nd_ne hnd 2 0 rfl rfl (by decide)) g_b2
                  have g_b3_ : M48 b3 = some (mI E 24 LN) := by rw [eM48]; exact mUp_at (nd_ne hnd 3 0 rfl rfl (by decide)) g_b3
                  have g_b4_ : M48 b4 = some (mI E 24 SZ) := by rw [eM48]; exact mUp_at (nd_ne hnd 4 0 rfl rfl (by decide)) g_b4
                  have g_b5_ : M48 b5 = some (mJ E 960 SM) := by rw [eM48]; exact mUp_at (nd_ne hnd 5 0 rfl rfl (by decide)) g_b5
                  have g_b6_ : M48 b6 = some (mI E 12 SO) := by rw [eM48]; exact mUp_at (nd_ne hnd 6 0 rfl rfl (by decide)) g_b6
                  have g_b7_ : M48 b7 = some (mI E 48 KN) := by rw [eM48]; exact mUp_at (nd_ne hnd 7 0 rfl rfl (by decide)) g_b7
                  have g_b8_ : M48 b8 = some (mI E 12 PI) := by rw [eM48]; exact mUp_at (nd_ne hnd 8 0 rfl rfl (by decide)) g_b8
                  have g_b9_ : M48 b9 = some (mZ E 12 ON) := by rw [eM48]; exact mUp_at (nd_ne hnd 9 0 rfl rfl (by decide)) g_b9
                  have g_b10_ : M48 b10 = some (mI E 12 PH) := by rw [eM48]; exact mUp_at (nd_ne hnd 10 0 rfl rfl (by decide)) g_b10
                  have g_b11_ : M48 b11 = some (mDb E 12 LE) := by rw [eM48]; exact mUp_at (nd_ne hnd 11 0 rfl rfl (by decide)) g_b11
                  have g_b12_ : M48 b12 = some (mI E 8 KD) := by rw [eM48]; exact mUp_at (nd_ne hnd 12 0 rfl rfl (by decide)) g_b12
                  have g_b13_ : M48 b13 = some (mI E 8 NM) := by rw [eM48]; exact mUp_at (nd_ne hnd 13 0 rfl rfl (by decide)) g_b13
                  have g_b14_ : M48 b14 = some (mI E 3 (upd CT 1 (c3 + 1))) := by rw [eM48]; exact mUp_at (nd_ne hnd 14 0 rfl rfl (by decide)) g_b14
                  have g_b15_ : M48 b15 = some (mDb E 40 CM) := by rw [eM48]; exact mUp_at (nd_ne hnd 15 0 rfl rfl (by decide)) g_b15
                  have g_b16_ : M48 b16 = some (mJ E 40 MV) := by rw [eM48]; exact mUp_at (nd_ne hnd 16 0 rfl rfl (by decide)) g_b16
                  have g_b1 := g_b1_
                  have g_b2 := g_b2_
                  have g_b3 := g_b3_
                  have g_b4 := g_b4_
                  have g_b5 := g_b5_
                  have g_b6 := g_b6_
                  have g_b7 := g_b7_
                  have g_b8 := g_b8_
                  have g_b9 := g_b9_
                  have g_b10 := g_b10_
                  have g_b11 := g_b11_
                  have g_b12 := g_b12_
                  have g_b13 := g_b13_
                  have g_b14 := g_b14_
                  have g_b15 := g_b15_
                  have g_b16 := g_b16_
                  have g_y : M48 y = some (mO 8 [.ref b1, .ref b2, .ref b3, .ref b4, .ref b5, .int (nI nn), .ref b6, .ref b7, .ref b8, .ref b9, .ref b10, .ref b11, .int (nI nf), .ref b12, .ref b13, .int bd, .int (if (-8 : Int32) < 0 then (-8 : Int32) else 0), .int fa, .ref b14, .ref b15, .ref b16]) := by rw [eM48]; exact mUp_self _ _ _
                  have hk : kept (nol y b1 b2 b3 b4 b5 b6 b7 b8 b9 b10 b11 b12 b13 b14 b15 b16) M M48 := (by rw [eM48]; exact hk.up (nol_in 0 rfl))
                  rw [if_pos (show (-8 : Int32) < 0 by decide)] at g_y
                  exact m_iret hx hb hr hlocks hM hS (Nat.le_refl _) (Nat.le_refl _) dX10_play_159 (by refine ⟨(by show _ = (if vPl nn nf (nI j) wy (nI q) b then (if plF bk rw bd b wy fr n = 0 then _ else plF bk rw bd b wy fr n) else -1); rw [if_pos hvp, hpf]; rfl), ?_, hk⟩; show mR E _ y b1 b2 b3 b4 b5 b6 b7 b8 b9 b10 b11 b12 b13 b14 b15 b16 (if vPl nn nf (nI j) wy (nI q) b then (if plF bk rw bd b wy fr n = 0 then _ else (nn, ins, nf, fn, bk, rw, bd, plF bk rw bd b wy fr n, c2, c3 + 1, c4)) else _); rw [if_pos hvp, hpf]; rw [if_neg (by decide)]; exact ⟨_, _, _, _, _, _, _, _, _, _, _, _, _, _, _, _, _, ⟨g_y, g_b1, g_b2, g_b3, g_b4, g_b5, g_b6, g_b7, g_b8, g_b9, g_b10, g_b11, g_b12, g_b13, g_b14, g_b15, g_b16⟩, hB, hT, hR, hN, hF, (by show upd CT 1 (c3 + 1) 0 = c2; rw [upd_o (by decide)]; exact hc2), upd_s, (by show upd CT 1 (c3 + 1) 2 = c4; rw [upd_o (by decide)]; exact hc4)⟩)
              · skip
                refine lv_aload_n hx hb dX10_play_77 rfl (lv_at hl 1 rfl) ?_
                refine m_get (ci := 8) (v := .int bd) (C := RX10) (T := TX10) (N := 21) hx hb hts in_X10_play_X10 hown hE hM g_y rfl 15 (by decide) (hts (.fieldLink RX10 61 "CallWays2Model" "bound" "I") (by decide +kernel)) (fun _ h9 => h9) rfl dX10_play_78 ?_
                refine lv_aload_n hx hb dX10_play_81 rfl (lv_at hl 1 rfl) ?_
                refine m_get (ci := 8) (v := .ref b3) (C := RX10) (T := TX10) (N := 21) hx hb hts in_X10_play_X10 hown hE hM g_y rfl 2 (by decide) (hts (.fieldLink RX10 16 "CallWays2Model" "laneOf" "[I") (by decide +kernel)) (fun _ h9 => h9) rfl dX10_play_82 ?_
                refine lv_iload hx hb dX10_play_85 (lv_at hl 0 rfl) ?_
                refine m_iald hx hb hE hM g_b3 (vp_in_nI hw24 (by decide)) dX10_play_87 ?_
                rw [show LN (nI w).toNatClampNeg = lane from by rw [nI_clamp (by omega), hLn]]
                refine lv_icmp_eq (tgt := 96) hx hb dX10_play_88 (by decide) (fun c_88 => ?_) (fun c_88 => ?_)
                · skip
                  have hnk : ¬ (wy = 1 ∧ ¬ lane = bd) := na2 (not_not_intro c_88.symm)
                  refine lv_iload hx hb dX10_play_96 (lv_at hl 7 rfl) ?_
                  refine lv_if_ge (tgt := 106) hx hb dX10_play_98 (by decide) (fun c_98 => ?_) (fun c_98 => ?_)
                  · skip
                    have hkl := Int32.not_lt.mpr c_98
                    obtain ⟨kn, hkn, ekn⟩ := nI_of hkl
                    refine lv_iload hx hb dX10_play_106 (lv_at hl 6 rfl) ?_
                    refine lv_if_lt (tgt := 130) hx hb dX10_play_108 (by decide) (fun c_108 => ?_) (fun c_108 => ?_)
                    · skip
                      have hpf : plF bk rw bd b wy fr n = -7 := hpw.trans (sI_7 hnk hkl (fun z => z.1 c_108))
                      refine lv_bipush (v := -7) hx hb dX10_play_130 (by decide) ?_
                      refine lv_goto (tgt := 136) hx hb dX10_play_132 (by decide) ?_
                      refine lv_istore (lv' := [(8, .int (-7)), (7, .int (nI w)), (0, .ref y), (1, .int (nI j)), (2, .int wy), (3, .int (nI q)), (4, .int b), (5, .int fr), (6, .int n)]) hx hb dX10_play_136 hl (by decide) rfl (fun ls hl => ?_)
                      refine lv_iload hx hb dX10_play_138 (lv_at hl 0 rfl) ?_
                      refine lv_if_eq (tgt := 160) hx hb dX10_play_140 (by decide) (fun h9 => False.elim (by revert h9; exact (fun h => absurd h (by decide)))) (fun _ => ?_)
                      refine lv_aload_n hx hb dX10_play_143 rfl (lv_at hl 2 rfl) ?_
                      refine m_get (ci := 8) (v := .ref b14) (C := RX10) (T := TX10) (N := 21) hx hb hts in_X10_play_X10 hown hE hM g_y rfl 18 (by decide) (hts (.fieldLink RX10 52 "CallWays2Model" "counts" "[I") (by decide +kernel)) (fun _ h9 => h9) rfl dX10_play_144 ?_
                      refine lv_iconst (v := 1) hx hb dX10_play_147 (by decide) ?_
                      refine lv_dup2_11 hx hb dX10_play_148 rfl rfl ?_
                      refine m_iald hx hb hE hM g_b14 in3_1 dX10_play_149 ?_
                      rw [show CT (1 : Int32).toNatClampNeg = c3 from by show CT 1 = c3; exact hc3]
                      refine lv_iconst (v := 1) hx hb dX10_play_150 (by decide) ?_
                      refine lv_iadd hx hb dX10_play_151 ?_
                      refine m_iast hx hb hE hM hS g_b14 in3_1 dX10_play_152 (fun H locs hM hS => ?_)
                      rw [show upd CT (1 : Int32).toNatClampNeg (c3 + 1) = upd CT 1 (c3 + 1) from rfl] at hM
                      have hM : mOK E.1 (mA M sz) (mUp M b14 (mI E 3 (upd CT 1 (c3 + 1)))) H := hM
                      obtain ⟨M49, eM49⟩ : ∃ z, z = mUp M b14 (mI E 3 (upd CT 1 (c3 + 1))) := ⟨_, rfl⟩
                      rw [← eM49] at hM
                      have g_y_ : M49 y = some (mO 8 [.ref b1, .ref b2, .ref b3, .ref b4, .ref b5, .int (nI nn), .ref b6, .ref b7, .ref b8, .ref b9, .ref b10, .ref b11, .int (nI nf), .ref b12, .ref b13, .int bd, .int st, .int fa, .ref b14, .ref b15, .ref b16]) := by rw [eM49]; exact mUp_at (nd_ne hnd 0 14 rfl rfl (by decide)) g_y
                      have g_b1_ : M49 b1 = some (mI E 10 B) := by rw [eM49]; exact mUp_at (nd_ne hnd 1 14 rfl rfl (by decide)) g_b1
                      have g_b2_ : M49 b2 = some (mI E 12 T) := by rw [eM49]; exact mUp_at (nd_ne hnd 2 14 rfl rfl (by decide)) g_b2
                      have g_b3_ : M49 b3 = some (mI E 24 LN) := by rw [eM49]; exact mUp_at (nd_ne hnd 3 14 rfl rfl (by decide)) g_b3
                      have g_b4_ : M49 b4 = some (mI E 24 SZ) := by rw [eM49]; exact mUp_at (nd_ne hnd 4 14 rfl rfl (by decide)) g_b4
                      have g_b5_ : M49 b5 = some (mJ E 960 SM) := by rw [eM49]; exact mUp_at (nd_ne hnd 5 14 rfl rfl (by decide)) g_b5
                      have g_b6_ : M49 b6 = some (mI E 12 SO) := by rw [eM49]; exact mUp_at (nd_ne hnd 6 14 rfl rfl (by decide)) g_b6
                      have g_b7_ : M49 b7 = some (mI E 48 KN) := by rw [eM49]; exact mUp_at (nd_ne hnd 7 14 rfl rfl (by decide)) g_b7
                      have g_b8_ : M49 b8 = some (mI E 12 PI) := by rw [eM49]; exact mUp_at (nd_ne hnd 8 14 rfl rfl (by decide)) g_b8
                      have g_b9_ : M49 b9 = some (mZ E 12 ON) := by rw [eM49]; exact mUp_at (nd_ne hnd 9 14 rfl rfl (by decide)) g_b9
                      have g_b10_ : M49 b10 = some (mI E 12 PH) := by rw [eM49]; exact mUp_at (nd_ne hnd 10 14 rfl rfl (by decide)) g_b10
                      have g_b11_ : M49 b11 = some (mDb E 12 LE) := by rw [eM49]; exact mUp_at (nd_ne hnd 11 14 rfl rfl (by decide)) g_b11
                      have g_b12_ : M49 b12 = some (mI E 8 KD) := by rw [eM49]; exact mUp_at (nd_ne hnd 12 14 rfl rfl (by decide)) g_b12
                      have g_b13_ : M49 b13 = some (mI E 8 NM) := by rw [eM49]; exact mUp_at (nd_ne hnd 13 14 rfl rfl (by decide)) g_b13
                      have g_b15_ : M49 b15 = some (mDb E 40 CM) := by rw [eM49]; exact mUp_at (nd_ne hnd 15 14 rfl rfl (by decide)) g_b15
                      have g_b16_ : M49 b16 = some (mJ E 40 MV) := by rw [eM49]; exact mUp_at (nd_ne hnd 16 14 rfl rfl (by decide)) g_b16
                      have g_y := g_y_
                      have g_b1 := g_b1_
                      have g_b2 := g_b2_
                      have g_b3 := g_b3_
                      have g_b4 := g_b4_
                      have g_b5 := g_b5_
                      have g_b6 := g_b6_
                      have g_b7 := g_b7_
                      have g_b8 := g_b8_
                      have g_b9 := g_b9_
                      have g_b10 := g_b10_
                      have g_b11 := g_b11_
                      have g_b12 := g_b12_
                      have g_b13 := g_b13_
                      have g_b15 := g_b15_
                      have g_b16 := g_b16_
                      have g_b14 : M49 b14 = some (mI E 3 (upd CT 1 (c3 + 1))) := by rw [eM49]; exact mUp_self _ _ _
                      have hk : kept (nol y b1 b2 b3 b4 b5 b6 b7 b8 b9 b10 b11 b12 b13 b14 b15 b16) M M49 := (by rw [eM49]; exact hk.up (nol_in 14 rfl))
                      refine lv_aload_n hx hb dX10_play_153 rfl (lv_at hl 2 rfl) ?_
                      refine lv_iload hx hb dX10_play_154 (lv_at hl 0 rfl) ?_
                      refine m_calli (va_runV (As := [.int (-7 : Int32)]) (rest := []) ⟨hx, hb, hml, hown, hts⟩ (c_X10_says l E M49 H.size y b1 b2 b3 b4 b5 b6 b7 b8 b9 b10 b11 b12 b13 b14 b15 b16 (nI nn) (nI nf) bd st fa (-7 : Int32) g_y) (cwV 1 hts gX10_play_X10_says rfl rfl rfl (by decide +kernel) ⟨Nat.le_of_ble_eq_true rfl, Nat.le_of_ble_eq_true rfl⟩) (m_preV hE hM g_y rfl) rfl rfl hl.1 rfl (lv_room (Nat.le_of_ble_eq_true rfl)) dX10_play_156 ⟨Nat.le_of_ble_eq_true rfl, Nat.le_of_ble_eq_true rfl⟩) hM hS hA (fun r2 M50 H locs hw hM hS => ?_)
                      obtain ⟨e_r2, eM50⟩ := hw
                      subst e_r2
                      have g_b1_ : M50 b1 = some (mI E 10 B) := by rw [eM50]; exact mUp_at (nd_ne hnd 1 0 rfl rfl (by decide)) g_b1
                      have g_b2_ : M50 b2 = some (mI E 12 T) := by rw [eM50]; exact mUp_at (nd_ne hnd 2 0 rfl rfl (by decide)) g_b2
                      have g_b3_ : M50 b3 = some (mI E 24 LN) := by rw [eM50]; exact mUp_at (nd_ne hnd 3 0 rfl rfl (by decide)) g_b3
                      have g_b4_ : M50 b4 = some (mI E 24 SZ) := by rw [eM50]; exact mUp_at (nd_ne hnd 4 0 rfl rfl (by decide)) g_b4
                      have g_b5_ : M50 b5 = some (mJ E 960 SM) := by rw [eM50]; exact mUp_at (nd_ne hnd 5 0 rfl rfl (by decide)) g_b5
                      have g_b6_ : M50 b6 = some (mI E 12 SO) := by rw [eM50]; exact mUp_at (nd_ne hnd 6 0 rfl rfl (by decide)) g_b6
                      have g_b7_ : M50 b7 = some (mI E 48 KN) := by rw [eM50]; exact mUp_at (nd_ne hnd 7 0 rfl rfl (by decide)) g_b7
                      have g_b8_ : M50 b8 = some (mI E 12 PI) := by rw [eM50]; exact mUp_at (nd_ne hnd 8 0 rfl rfl (by decide)) g_b8
                      have g_b9_ : M50 b9 = some (mZ E 12 ON) := by rw [eM50]; exact mUp_at (nd_ne hnd 9 0 rfl rfl (by decide)) g_b9
                      have g_b10_ : M50 b10 = some (mI E 12 PH) := by rw [eM50]; exact mUp_at (nd_ne hnd 10 0 rfl rfl (by decide)) g_b10
                      have g_b11_ : M50 b11 = some (mDb E 12 LE) := by rw [eM50]; exact mUp_at (nd_ne hnd 11 0 rfl rfl (by decide)) g_b11
                      have g_b12_ : M50 b12 = some (mI E 8 KD) := by rw [eM50]; exact mUp_at (nd_ne hnd 12 0 rfl rfl (by decide)) g_b12
                      have g_b13_ : M50 b13 = some (mI E 8 NM) := by rw [eM50]; exact mUp_at (nd_ne hnd 13 0 rfl rfl (by decide)) g_b13
                      have g_b14_ : M50 b14 = some (mI E 3 (upd CT 1 (c3 + 1))) := by rw [eM50]; exact mUp_at (nd_ne hnd 14 0 rfl rfl (by decide)) g_b14
                      have g_b15_ : M50 b15 = some (mDb E 40 CM) := by rw [eM50]; exact mUp_at (nd_ne hnd 15 0 rfl rfl (by decide)) g_b15
                      have g_b16_ : M50 b16 = some (mJ E 40 MV) := by rw [eM50]; exact mUp_at (nd_ne hnd 16 0 rfl rfl (by decide)) g_b16
                      have g_b1 := g_b1_
                      have g_b2 := g_b2_
                      have g_b3 := g_b3_
                      have g_b4 := g_b4_
                      have g_b5 := g_b5_
                      have g_b6 := g_b6_
                      have g_b7 := g_b7_
                      have g_b8 := g_b8_
                      have g_b9 := g_b9_
                      have g_b10 := g_b10_
                      have g_b11 := g_b11_
                      have g_b12 := g_b12_
                      have g_b13 := g_b13_
                      have g_b14 := g_b14_
                      have g_b15 := g_b15_
                      have g_b16 := g_b16_
                      have g_y : M50 y = some (mO 8 [.ref b1, .ref b2, .ref b3, .ref b4, .ref b5, .int (nI nn), .ref b6, .ref b7, .ref b8, .ref b9, .ref b10, .ref b11, .int (nI nf), .ref b12, .ref b13, .int bd, .int (if (-7 : Int32) < 0 then (-7 : Int32) else 0), .int fa, .ref b14, .ref b15, .ref b16]) := by rw [eM50]; exact mUp_self _ _ _
                      have hk : kept (nol y b1 b2 b3 b4 b5 b6 b7 b8 b9 b10 b11 b12 b13 b14 b15 b16) M M50 := (by rw [eM50]; exact hk.up (nol_in 0 rfl))
                      rw [if_pos (show (-7 : Int32) < 0 by decide)] at g_y
                      exact m_iret hx hb hr hlocks hM hS (Nat.le_refl _) (Nat.le_refl _) dX10_play_159 (by refine ⟨(by show _ = (if vPl nn nf (nI j) wy (nI q) b then (if plF bk rw bd b wy fr n = 0 then _ else plF bk rw bd b wy fr n) else -1); rw [if_pos hvp, hpf]; rfl), ?_, hk⟩; show mR E _ y b1 b2 b3 b4 b5 b6 b7 b8 b9 b10 b11 b12 b13 b14 b15 b16 (if vPl nn nf (nI j) wy (nI q) b then (if plF bk rw bd b wy fr n = 0 then _ else (nn, ins, nf, fn, bk, rw, bd, plF bk rw bd b wy fr n, c2, c3 + 1, c4)) else _); rw [if_pos hvp, hpf]; rw [if_neg (by decide)]; exact ⟨_, _, _, _, _, _, _, _, _, _, _, _, _, _, _, _, _, ⟨g_y, g_b1, g_b2, g_b3, g_b4, g_b5, g_b6, g_b7, g_b8, g_b9, g_b10, g_b11, g_b12, g_b13, g_b14, g_b15, g_b16⟩, hB, hT, hR, hN, hF, (by show upd CT 1 (c3 + 1) 0 = c2; rw [upd_o (by decide)]; exact hc2), upd_s, (by show upd CT 1 (c3 + 1) 2 = c4; rw [upd_o (by decide)]; exact hc4)⟩)
                    · skip
                      obtain ⟨a9, ha9, ea9⟩ := nI_of c_108
                      refine lv_iload hx hb dX10_play_111 (lv_at hl 6 rfl) ?_
                      refine lv_i2l hx hb dX10_play_113 rfl ?_
                      refine lv_iload hx hb dX10_play_114 (lv_at hl 7 rfl) ?_
                      refine lv_i2l hx hb dX10_play_116 rfl ?_
                      refine lv_ladd hx hb dX10_play_117 ?_
                      refine lv_aload_n hx hb dX10_play_118 rfl (lv_at hl 1 rfl) ?_
                      refine m_get (ci := 8) (v := .ref b4) (C := RX10) (T := TX10) (N := 21) hx hb hts in_X10_play_X10 hown hE hM g_y rfl 3 (by decide) (hts (.fieldLink RX10 19 "CallWays2Model" "sizeOf" "[I") (by decide +kernel)) (fun _ h9 => h9) rfl dX10_play_119 ?_
                      refine lv_iload hx hb dX10_play_122 (lv_at hl 0 rfl) ?_
                      refine m_iald hx hb hE hM g_b4 (vp_in_nI hw24 (by decide)) dX10_play_124 ?_
                      rw [show SZ (nI w).toNatClampNeg = nI n0 from by rw [nI_clamp (by omega), hSz]]
                      refine lv_i2l hx hb dX10_play_125 rfl ?_
                      refine W.lcmp hx hb dX10_play_126 ?_
                      refine lv_if_le (tgt := 135) hx hb dX10_play_127 (by decide) (fun c_127 => ?_) (fun c_127 => ?_)
                      · skip
                        replace c_127 := Int32.not_lt.mpr c_127
                        rw [ea9, ekn, lsum (by omega) ha9 hkn, Classical.not_not] at c_127
                        have hspn : spn n0 fr n := (by rw [ea9, ekn]; exact (spn_iff (by omega) ha9 hkn).mpr c_127)
                        have hpf : plF bk rw bd b wy fr n = 0 := hpw.trans (sI_0 hnk hkl hspn)
                        refine lv_iconst (v := 0) hx hb dX10_play_135 (by decide) ?_
                        refine lv_istore (lv' := [(8, .int 0), (7, .int (nI w)), (0, .ref y), (1, .int (nI j)), (2, .int wy), (3, .int (nI q)), (4, .int b), (5, .int fr), (6, .int n)]) hx hb dX10_play_136 hl (by decide) rfl (fun ls hl => ?_)
                        refine lv_iload hx hb dX10_play_138 (lv_at hl 0 rfl) ?_
                        refine lv_if_eq (tgt := 160) hx hb dX10_play_140 (by decide) (fun _ => ?_) (fun h9 => False.elim (by revert h9; exact (fun h => h rfl)))
                        exact core hpf hspn ls (lv_sub hl [0, 1, 2, 3, 4, 5, 6, 7, 8] rfl)
                      · skip
                        replace c_127 := Int32.not_le.mp c_127
                        rw [ea9, ekn, lsum (by omega) ha9 hkn] at c_127
                        have hpf : plF bk rw bd b wy fr n = -7 := hpw.trans (sI_7 hnk hkl (fun z => c_127 ((spn_iff (by omega) ha9 hkn).mp (by rw [← ea9, ← ekn]; exact z))))
                        refine lv_bipush (v := -7) hx hb dX10_play_130 (by decide) ?_
                        refine lv_goto (tgt := 136) hx hb dX10_play_132 (by decide) ?_
                        refine lv_istore (lv' := [(8, .int (-7)), (7, .int (nI w)), (0, .ref y), (1, .int (nI j)), (2, .int wy), (3, .int (nI q)), (4, .int b), (5, .int fr), (6, .int n)]) hx hb dX10_play_136 hl (by decide) rfl (fun ls hl => ?_)
                        refine lv_iload hx hb dX10_play_138 (lv_at hl 0 rfl) ?_
                        refine lv_if_eq (tgt := 160) hx hb dX10_play_140 (by decide) (fun h9 => False.elim (by revert h9; exact (fun h => absurd h (by decide)))) (fun _ => ?_)
                        refine lv_aload_n hx hb dX10_play_143 rfl (lv_at hl 2 rfl) ?_
                        refine m_get (ci := 8) (v := .ref b14) (C := RX10) (T := TX10) (N := 21) hx hb hts in_X10_play_X10 hown hE hM g_y rfl 18 (by decide) (hts (.fieldLink RX10 52 "CallWays2Model" "counts" "[I") (by decide +kernel)) (fun _ h9 => h9) rfl dX10_play_144 ?_
                        refine lv_iconst (v := 1) hx hb dX10_play_147 (by decide) ?_
                        refine lv_dup2_11 hx hb dX10_play_148 rfl rfl ?_
                        refine m_iald hx hb hE hM g_b14 in3_1 dX10_play_149 ?_
                        rw [show CT (1 : Int32).toNatClampNeg = c3 from by show CT 1 = c3; exact hc3]
                        refine lv_iconst (v := 1) hx hb dX10_play_150 (by decide) ?_
                        refine lv_iadd hx hb dX10_play_151 ?_
                        refine m_iast hx hb hE hM hS g_b14 in3_1 dX10_play_152 (fun H locs hM hS => ?_)
                        rw [show upd CT (1 : Int32).toNatClampNeg (c3 + 1) = upd CT 1 (c3 + 1) from rfl] at hM
                        have hM : mOK E.1 (mA M sz) (mUp M b14 (mI E 3 (upd CT 1 (c3 + 1)))) H := hM
                        obtain ⟨M51, eM51⟩ : ∃ z, z = mUp M b14 (mI E 3 (upd CT 1 (c3 + 1))) := ⟨_, rfl⟩
                        rw [← eM51] at hM
                        have g_y_ : M51 y = some (mO 8 [.ref b1, .ref b2, .ref b3, .ref b4, .ref b5, .int (nI nn), .ref b6, .ref b7, .ref b8, .ref b9, .ref b10, .ref b11, .int (nI nf), .ref b12, .ref b13, .int bd, .int st, .int fa, .ref b14, .ref b15, .ref b16]) := by rw [eM51]; exact mUp_at (nd_ne hnd 0 14 rfl rfl (by decide)) g_y
                        have g_b1_ : M51 b1 = some (mI E 10 B) := by rw [eM51]; exact mUp_at (nd_ne hnd 1 14 rfl rfl (by decide)) g_b1
                        have g_b2_ : M51 b2 = some (mI E 12 T) := by rw [eM51]; exact mUp_at (nd_ne hnd 2 14 rfl rfl (by decide)) g_b2
                        have g_b3_ : M51 b3 = some (mI E 24 LN) := by rw [eM51]; exact mUp_at (nd_ne hnd 3 14 rfl rfl (by decide)) g_b3
                        have g_b4_ : M51 b4 = some (mI E 24 SZ) := by rw [eM51]; exact mUp_at (nd_ne hnd 4 14 rfl rfl (by decide)) g_b4
                        have g_b5_ : M51 b5 = some (mJ E 960 SM) := by rw [eM51]; exact mUp_at (nd_ne hnd 5 14 rfl rfl (by decide)) g_b5
                        have g_b6_ : M51 b6 = some (mI E 12 SO) := by rw [eM51]; exact mUp_at (nd_ne hnd 6 14 rfl rfl (by decide)) g_b6
                        have g_b7_ : M51 b7 = some (mI E 48 KN) := by rw [eM51]; exact mUp_at (nd_ne hnd 7 14 rfl rfl (by decide)) g_b7
                        have g_b8_ : M51 b8 = some (mI E 12 PI) := by rw [eM51]; exact mUp_at (nd_ne hnd 8 14 rfl rfl (by decide)) g_b8
                        have g_b9_ : M51 b9 = some (mZ E 12 ON) := by rw [eM51]; exact mUp_at (nd_ne hnd 9 14 rfl rfl (by decide)) g_b9
                        have g_b10_ : M51 b10 = some (mI E 12 PH) := by rw [eM51]; exact mUp_at (nd_ne hnd 10 14 rfl rfl (by decide)) g_b10
                        have g_b11_ : M51 b11 = some (mDb E 12 LE) := by rw [eM51]; exact mUp_at (nd_ne hnd 11 14 rfl rfl (by decide)) g_b11
                        have g_b12_ : M51 b12 = some (mI E 8 KD) := by rw [eM51]; exact mUp_at (nd_ne hnd 12 14 rfl rfl (by decide)) g_b12
                        have g_b13_ : M51 b13 = some (mI E 8 NM) := by rw [eM51]; exact mUp_at (nd_ne hnd 13 14 rfl rfl (by decide)) g_b13
                        have g_b15_ : M51 b15 = some (mDb E 40 CM) := by rw [eM51]; exact mUp_at (nd_ne hnd 15 14 rfl rfl (by decide)) g_b15
                        have g_b16_ : M51 b16 = some (mJ E 40 MV) := by rw [eM51]; exact mUp_at (nd_ne hnd 16 14 rfl rfl (by decide)) g_b16
                        have g_y := g_y_
                        have g_b1 := g_b1_
                        have g_b2 := g_b2_
                        have g_b3 := g_b3_
                        have g_b4 := g_b4_
                        have g_b5 := g_b5_
                        have g_b6 := g_b6_
                        have g_b7 := g_b7_
                        have g_b8 := g_b8_
                        have g_b9 := g_b9_
                        have g_b10 := g_b10_
                        have g_b11 := g_b11_
                        have g_b12 := g_b12_
                        have g_b13 := g_b13_
                        have g_b15 := g_b15_
                        have g_b16 := g_b16_
                        have g_b14 : M51 b14 = some (mI E 3 (upd CT 1 (c3 + 1))) := by rw [eM51]; exact mUp_self _ _ _
                        have hk : kept (nol y b1 b2 b3 b4 b5 b6 b7 b8 b9 b10 b11 b12 b13 b14 b15 b16) M M51 := (by rw [eM51]; exact hk.up (nol_in 14 rfl))
                        refine lv_aload_n hx hb dX10_play_153 rfl (lv_at hl 2 rfl) ?_
                        refine lv_iload hx hb dX10_play_154 (lv_at hl 0 rfl) ?_
                        refine m_calli (va_runV (As := [.int (-7 : Int32)]) (rest := []) ⟨hx, hb, hml, hown, hts⟩ (c_X10_says l E M51 H.size y b1 b2 b3 b4 b5 b6 b7 b8 b9 b10 b11 b12 b13 b14 b15 b16 (nI nn) (nI nf) bd st fa (-7 : Int32) g_y) (cwV 1 hts gX10_play_X10_says rfl rfl rfl (by decide +kernel) ⟨Nat.le_of_ble_eq_true rfl, Nat.le_of_ble_eq_true rfl⟩) (m_preV hE hM g_y rfl) rfl rfl hl.1 rfl (lv_room (Nat.le_of_ble_eq_true rfl)) dX10_play_156 ⟨Nat.le_of_ble_eq_true rfl, Nat.le_of_ble_eq_true rfl⟩) hM hS hA (fun r2 M52 H locs hw hM hS => ?_)
                        obtain ⟨e_r2, eM52⟩ := hw
                        subst e_r2
                        have g_b1_ : M52 b1 = some (mI E 10 B) := by rw [eM52]; exact mUp_at (nd_ne hnd 1 0 rfl rfl (by decide)) g_b1
                        have g_b2_ : M52 b2 = some (mI E 12 T) := by rw [eM52]; exact mUp_at (nd_ne hnd 2 0 rfl rfl (by decide)) g_b2
                        have g_b3_ : M52 b3 = some (mI E 24 LN) := by rw [eM52]; exact mUp_at (nd_ne hnd 3 0 rfl rfl (by decide)) g_b3
                        have g_b4_ : M52 b4 = some (mI E 24 SZ) := by rw [eM52]; exact mUp_at (nd_ne hnd 4 0 rfl rfl (by decide)) g_b4
                        have g_b5_ : M52 b5 = some (mJ E 960 SM) := by rw [eM52]; exact mUp_at (nd_ne hnd 5 0 rfl rfl (by decide)) g_b5
                        have g_b6_ : M52 b6 = some (mI E 12 SO) := by rw [eM52]; exact mUp_at (nd_ne hnd 6 0 rfl rfl (by decide)) g_b6
                        have g_b7_ : M52 b7 = some (mI E 48 KN) := by rw [eM52]; exact mUp_at (nd_ne hnd 7 0 rfl rfl (by decide)) g_b7
                        have g_b8_ : M52 b8 = some (mI E 12 PI) := by rw [eM52]; exact mUp_at (nd_ne hnd 8 0 rfl rfl (by decide)) g_b8
                        have g_b9_ : M52 b9 = some (mZ E 12 ON) := by rw [eM52]; exact mUp_at (nd_ne hnd 9 0 rfl rfl (by decide)) g_b9
                        have g_b10_ : M52 b10 = some (mI E 12 PH) := by rw [eM52]; exact mUp_at (nd_ne hnd 10 0 rfl rfl (by decide)) g_b10
                        have g_b11_ : M52 b11 = some (mDb E 12 LE) := by rw [eM52]; exact mUp_at (nd_ne hnd 11 0 rfl rfl (by decide)) g_b11
                        have g_b12_ : M52 b12 = some (mI E 8 KD) := by rw [eM52]; exact mUp_at (nd_ne hnd 12 0 rfl rfl (by decide)) g_b12
                        have g_b13_ : M52 b13 = some (mI E 8 NM) := by rw [eM52]; exact mUp_at (nd_ne hnd 13 0 rfl rfl (by decide)) g_b13
                        have g_b14_ : M52 b14 = some (mI E 3 (upd CT 1 (c3 + 1))) := by rw [eM52]; exact mUp_at (nd_ne hnd 14 0 rfl rfl (by decide)) g_b14
                        have g_b15_ : M52 b15 = some (mDb E 40 CM) := by rw [eM52]; exact mUp_at (nd_ne hnd 15 0 rfl rfl (by decide)) g_b15
                        have g_b16_ : M52 b16 = some (mJ E 40 MV) := by rw [eM52]; exact mUp_at (nd_ne hnd 16 0 rfl rfl (by decide)) g_b16
                        have g_b1 := g_b1_
                        have g_b2 := g_b2_
                        have g_b3 := g_b3_
                        have g_b4 := g_b4_
                        have g_b5 := g_b5_
                        have g_b6 := g_b6_
                        have g_b7 := g_b7_
                        have g_b8 := g_b8_
                        have g_b9 := g_b9_
                        have g_b10 := g_b10_
                        have g_b11 := g_b11_
                        have g_b12 := g_b12_
                        have g_b13 := g_b13_
                        have g_b14 := g_b14_
                        have g_b15 := g_b15_
                        have g_b16 := g_b16_
                        have g_y : M52 y = some (mO 8 [.ref b1, .ref b2, .ref b3, .ref b4, .ref b5, .int (nI nn), .ref b6, .ref b7, .ref b8, .ref b9, .ref b10, .ref b11, .int (nI nf), .ref b12, .ref b13, .int bd, .int (if (-7 : Int32) < 0 then (-7 : Int32) else 0), .int fa, .ref b14, .ref b15, .ref b16]) := by rw [eM52]; exact mUp_self _ _ _
                        have hk : kept (nol y b1 b2 b3 b4 b5 b6 b7 b8 b9 b10 b11 b12 b13 b14 b15 b16) M M52 := (by rw [eM52]; exact hk.up (nol_in 0 rfl))
                        rw [if_pos (show (-7 : Int32) < 0 by decide)] at g_y
                        exact m_iret hx hb hr hlocks hM hS (Nat.le_refl _) (Nat.le_refl _) dX10_play_159 (by refine ⟨(by show _ = (if vPl nn nf (nI j) wy (nI q) b then (if plF bk rw bd b wy fr n = 0 then _ else plF bk rw bd b wy fr n) else -1); rw [if_pos hvp, hpf]; rfl), ?_, hk⟩; show mR E _ y b1 b2 b3 b4 b5 b6 b7 b8 b9 b10 b11 b12 b13 b14 b15 b16 (if vPl nn nf (nI j) wy (nI q) b then (if plF bk rw bd b wy fr n = 0 then _ else (nn, ins, nf, fn, bk, rw, bd, plF bk rw bd b wy fr n, c2, c3 + 1, c4)) else _); rw [if_pos hvp, hpf]; rw [if_neg (by decide)]; exact ⟨_, _, _, _, _, _, _, _, _, _, _, _, _, _, _, _, _, ⟨g_y, g_b1, g_b2, g_b3, g_b4, g_b5, g_b6, g_b7, g_b8, g_b9, g_b10, g_b11, g_b12, g_b13, g_b14, g_b15, g_b16⟩, hB, hT, hR, hN, hF, (by show upd CT 1 (c3 + 1) 0 = c2; rw [upd_o (by decide)]; exact hc2), upd_s, (by show upd CT 1 (c3 + 1) 2 = c4; rw [upd_o (by decide)]; exact hc4)⟩)
                  · skip
                    have hpf : plF bk rw bd b wy fr n = -8 := hpw.trans (sI_8 hnk (Int32.not_le.mp c_98))
                    refine lv_bipush (v := -8) hx hb dX10_play_101 (by decide) ?_
                    refine lv_goto (tgt := 136) hx hb dX10_play_103 (by decide) ?_
                    refine lv_istore (lv' := [(8, .int (-8)), (7, .int (nI w)), (0, .ref y), (1, .int (nI j)), (2, .int wy), (3, .int (nI q)), (4, .int b), (5, .int fr), (6, .int n)]) hx hb dX10_play_136 hl (by decide) rfl (fun ls hl => ?_)
                    refine lv_iload hx hb dX10_play_138 (lv_at hl 0 rfl) ?_
                    refine lv_if_eq (tgt := 160) hx hb dX10_play_140 (by decide) (fun h9 => False.elim (by revert h9; exact (fun h => absurd h (by decide)))) (fun _ => ?_)
                    refine lv_aload_n hx hb dX10_play_143 rfl (lv_at hl 2 rfl) ?_
                    refine m_get (ci := 8) (v := .ref b14) (C := RX10) (T := TX10) (N := 21) hx hb hts in_X10_play_X10 hown hE hM g_y rfl 18 (by decide) (hts (.fieldLink RX10 52 "CallWays2Model" "counts" "[I") (by decide +kernel)) (fun _ h9 => h9) rfl dX10_play_144 ?_
                    refine lv_iconst (v := 1) hx hb dX10_play_147 (by decide) ?_
                    refine lv_dup2_11 hx hb dX10_play_148 rfl rfl ?_
                    refine m_iald hx hb hE hM g_b14 in3_1 dX10_play_149 ?_
                    rw [show CT (1 : Int32).toNatClampNeg = c3 from by show CT 1 = c3; exact hc3]
                    refine lv_iconst (v := 1) hx hb dX10_play_150 (by decide) ?_
                    refine lv_iadd hx hb dX10_play_151 ?_
                    refine m_iast hx hb hE hM hS g_b14 in3_1 dX10_play_152 (fun H locs hM hS => ?_)
                    rw [show upd CT (1 : Int32).toNatClampNeg (c3 + 1) = upd CT 1 (c3 + 1) from rfl] at hM
                    have hM : mOK E.1 (mA M sz) (mUp M b14 (mI E 3 (upd CT 1 (c3 + 1)))) H := hM
                    obtain ⟨M53, eM53⟩ : ∃ z, z = mUp M b14 (mI E 3 (upd CT 1 (c3 + 1))) := ⟨_, rfl⟩
                    rw [← eM53] at hM
                    have g_y_ : M53 y = some (mO 8 [.ref b1, .ref b2, .ref b3, .ref b4, .ref b5, .int (nI nn), .ref b6, .ref b7, .ref b8, .ref b9, .ref b10, .ref b11, .int (nI nf), .ref b12, .ref b13, .int bd, .int st, .int fa, .ref b14, .ref b15, .ref b16]) := by rw [eM53]; exact mUp_at (nd_ne hnd 0 14 rfl rfl (by decide)) g_y
                    have g_b1_ : M53 b1 = some (mI E 10 B) := by rw [eM53]; exact mUp_at (nd_ne hnd 1 14 rfl rfl (by decide)) g_b1
                    have g_b2_ : M53 b2 = some (mI E 12 T) := by rw [eM53]; exact mUp_at (nd_ne hnd 2 14 rfl rfl (by decide)) g_b2
                    have g_b3_ : M53 b3 = some (mI E 24 LN) := by rw [eM53]; exact mUp_at (nd_ne hnd 3 14 rfl rfl (by decide)) g_b3
                    have g_b4_ : M53 b4 = some (mI E 24 SZ) := by rw [eM53]; exact mUp_at (nd_ne hnd 4 14 rfl rfl (by decide)) g_b4
                    have g_b5_ : M53 b5 = some (mJ E 960 SM) := by rw [eM53]; exact mUp_at (nd_ne hnd 5 14 rfl rfl (by decide)) g_b5
                    have g_b6_ : M53 b6 = some (mI E 12 SO) := by rw [eM53]; exact mUp_at (nd_ne hnd 6 14 rfl rfl (by decide)) g_b6
                    have g_b7_ : M53 b7 = some (mI E 48 KN) := by rw [eM53]; exact mUp_at (nd_ne hnd 7 14 rfl rfl (by decide)) g_b7
                    have g_b8_ : M53 b8 = some (mI E 12 PI) := by rw [eM53]; exact mUp_at (nd_ne hnd 8 14 rfl rfl (by decide)) g_b8
                    have g_b9_ : M53 b9 = some (mZ E 12 ON) := by rw [eM53]; exact mUp_at (nd_ne hnd 9 14 rfl rfl (by decide)) g_b9
                    have g_b10_ : M53 b10 = some (mI E 12 PH) := by rw [eM53]; exact mUp_at (nd_ne hnd 10 14 rfl rfl (by decide)) g_b10
                    have g_b11_ : M53 b11 = some (mDb E 12 LE) := by rw [eM53]; exact mUp_at (nd_ne hnd 11 14 rfl rfl (by decide)) g_b11
                    have g_b12_ : M53 b12 = some (mI E 8 KD) := by rw [eM53]; exact mUp_at (nd_ne hnd 12 14 rfl rfl (by decide)) g_b12
                    have g_b13_ : M53 b13 = some (mI E 8 NM) := by rw [eM53]; exact mUp_at (nd_ne hnd 13 14 rfl rfl (by decide)) g_b13
                    have g_b15_ : M53 b15 = some (mDb E 40 CM) := by rw [eM53]; exact mUp_at (nd_ne hnd 15 14 rfl rfl (by decide)) g_b15
                    have g_b16_ : M53 b16 = some (mJ E 40 MV) := by rw [eM53]; exact mUp_at (nd_ne hnd 16 14 rfl rfl (by decide)) g_b16
                    have g_y := g_y_
                    have g_b1 := g_b1_
                    have g_b2 := g_b2_
                    have g_b3 := g_b3_
                    have g_b4 := g_b4_
                    have g_b5 := g_b5_
                    have g_b6 := g_b6_
                    have g_b7 := g_b7_
                    have g_b8 := g_b8_
                    have g_b9 := g_b9_
                    have g_b10 := g_b10_
                    have g_b11 := g_b11_
                    have g_b12 := g_b12_
                    have g_b13 := g_b13_
                    have g_b15 := g_b15_
                    have g_b16 := g_b16_
                    have g_b14 : M53 b14 = some (mI E 3 (upd CT 1 (c3 + 1))) := by rw [eM53]; exact mUp_self _ _ _
                    have hk : kept (nol y b1 b2 b3 b4 b5 b6 b7 b8 b9 b10 b11 b12 b13 b14 b15 b16) M M53 := (by rw [eM53]; exact hk.up (nol_in 14 rfl))
                    refine lv_aload_n hx hb dX10_play_153 rfl (lv_at hl 2 rfl) ?_
                    refine lv_iload hx hb dX10_play_154 (lv_at hl 0 rfl) ?_
                    refine m_calli (va_runV (As := [.int (-8 : Int32)]) (rest := []) ⟨hx, hb, hml, hown, hts⟩ (c_X10_says l E M53 H.size y b1 b2 b3 b4 b5 b6 b7 b8 b9 b10 b11 b12 b13 b14 b15 b16 (nI nn) (nI nf) bd st fa (-8 : Int32) g_y) (cwV 1 hts gX10_play_X10_says rfl rfl rfl (by decide +kernel) ⟨Nat.le_of_ble_eq_true rfl, Nat.le_of_ble_eq_true rfl⟩) (m_preV hE hM g_y rfl) rfl rfl hl.1 rfl (lv_room (Nat.le_of_ble_eq_true rfl)) dX10_play_156 ⟨Nat.le_of_ble_eq_true rfl, Nat.le_of_ble_eq_true rfl⟩) hM hS hA (fun r2 M54 H locs hw hM hS => ?_)
                    obtain ⟨e_r2, eM54⟩ := hw
                    subst e_r2
                    have g_b1_ : M54 b1 = some (mI E 10 B) := by rw [eM54]; exact mUp_at (nd_ne hnd 1 0 rfl rfl (by decide)) g_b1
                    have g_b2_ : M54 b2 = some (mI E 12 T) := by rw [eM54]; exact mUp_at (nd_ne hnd 2 0 rfl rfl (by decide)) g_b2
                    have g_b3_ : M54 b3 = some (mI E 24 LN) := by rw [eM54]; exact mUp_at (nd_ne hnd 3 0 rfl rfl (by decide)) g_b3
                    have g_b4_ : M54 b4 = some (mI E 24 SZ) := by rw [eM54]; exact mUp_at (nd_ne hnd 4 0 rfl rfl (by decide)) g_b4
                    have g_b5_ : M54 b5 = some (mJ E 960 SM) := by rw [eM54]; exact mUp_at (nd_ne hnd 5 0 rfl rfl (by decide)) g_b5
                    have g_b6_ : M54 b6 = some (mI E 12 SO) := by rw [eM54]; exact mUp_at (nd_ne hnd 6 0 rfl rfl (by decide)) g_b6
                    have g_b7_ : M54 b7 = some (mI E 48 KN) := by rw [eM54]; exact mUp_at (nd_ne hnd 7 0 rfl rfl (by decide)) g_b7
                    have g_b8_ : M54 b8 = some (mI E 12 PI) := by rw [eM54]; exact mUp_at (nd_ne hnd 8 0 rfl rfl (by decide)) g_b8
                    have g_b9_ : M54 b9 = some (mZ E 12 ON) := by rw [eM54]; exact mUp_at (nd_ne hnd 9 0 rfl rfl (by decide)) g_b9
                    have g_b10_ : M54 b10 = some (mI E 12 PH) := by rw [eM54]; exact mUp_at (nd_ne hnd 10 0 rfl rfl (by decide)) g_b10
                    have g_b11_ : M54 b11 = some (mDb E 12 LE) := by rw [eM54]; exact mUp_at (nd_ne hnd 11 0 rfl rfl (by decide)) g_b11
                    have g_b12_ : M54 b12 = some (mI E 8 KD) := by rw [eM54]; exact mUp_at (nd_ne hnd 12 0 rfl rfl (by decide)) g_b12
                    have g_b13_ : M54 b13 = some (mI E 8 NM) := by rw [eM54]; exact mUp_at (nd_ne hnd 13 0 rfl rfl (by decide)) g_b13
                    have g_b14_ : M54 b14 = some (mI E 3 (upd CT 1 (c3 + 1))) := by rw [eM54]; exact mUp_at (nd_ne hnd 14 0 rfl rfl (by decide)) g_b14
                    have g_b15_ : M54 b15 = some (mDb E 40 CM) := by rw [eM54]; exact mUp_at (nd_ne hnd 15 0 rfl rfl (by decide)) g_b15
                    have g_b16_ : M54 b16 = some (mJ E 40 MV) := by rw [eM54]; exact mUp_at (nd_ne hnd 16 0 rfl rfl (by decide)) g_b16
                    have g_b1 := g_b1_
                    have g_b2 := g_b2_
                    have g_b3 := g_b3_
                    have g_b4 := g_b4_
                    have g_b5 := g_b5_
                    have g_b6 := g_b6_
                    have g_b7 := g_b7_
                    have g_b8 := g_b8_
                    have g_b9 := g_b9_
                    have g_b10 := g_b10_
                    have g_b11 := g_b11_
                    have g_b12 := g_b12_
                    have g_b13 := g_b13_
                    have g_b14 := g_b14_
                    have g_b15 := g_b15_
                    have g_b16 := g_b16_
                    have g_y : M54 y = some (mO 8 [.ref b1, .ref b2, .ref b3, .ref b4, .ref b5, .int (nI nn), .ref b6, .ref b7, .ref b8, .ref b9, .ref b10, .ref b11, .int (nI nf), .ref b12, .ref b13, .int bd, .int (if (-8 : Int32) < 0 then (-8 : Int32) else 0), .int fa, .ref b14, .ref b15, .ref b16]) := by rw [eM54]; exact mUp_self _ _ _
                    have hk : kept (nol y b1 b2 b3 b4 b5 b6 b7 b8 b9 b10 b11 b12 b13 b14 b15 b16) M M54 := (by rw [eM54]; exact hk.up (nol_in 0 rfl))
                    rw [if_pos (show (-8 : Int32) < 0 by decide)] at g_y
                    exact m_iret hx hb hr hlocks hM hS (Nat.le_refl _) (Nat.le_refl _) dX10_play_159 (by refine ⟨(by show _ = (if vPl nn nf (nI j) wy (nI q) b then (if plF bk rw bd b wy fr n = 0 then _ else plF bk rw bd b wy fr n) else -1); rw [if_pos hvp, hpf]; rfl), ?_, hk⟩; show mR E _ y b1 b2 b3 b4 b5 b6 b7 b8 b9 b10 b11 b12 b13 b14 b15 b16 (if vPl nn nf (nI j) wy (nI q) b then (if plF bk rw bd b wy fr n = 0 then _ else (nn, ins, nf, fn, bk, rw, bd, plF bk rw bd b wy fr n, c2, c3 + 1, c4)) else _); rw [if_pos hvp, hpf]; rw [if_neg (by decide)]; exact ⟨_, _, _, _, _, _, _, _, _, _, _, _, _, _, _, _, _, ⟨g_y, g_b1, g_b2, g_b3, g_b4, g_b5, g_b6, g_b7, g_b8, g_b9, g_b10, g_b11, g_b12, g_b13, g_b14, g_b15, g_b16⟩, hB, hT, hR, hN, hF, (by show upd CT 1 (c3 + 1) 0 = c2; rw [upd_o (by decide)]; exact hc2), upd_s, (by show upd CT 1 (c3 + 1) 2 = c4; rw [upd_o (by decide)]; exact hc4)⟩)
                · skip
                  have hpf : plF bk rw bd b wy fr n = -6 := hpw.trans (sI_6 c_74 (fun z => c_88 z.symm))
                  refine lv_bipush (v := -6) hx hb dX10_play_91 (by decide) ?_
                  refine lv_goto (tgt := 136) hx hb dX10_play_93 (by decide) ?_
                  refine lv_istore (lv' := [(8, .int (-6)), (7, .int (nI w)), (0, .ref y), (1, .int (nI j)), (2, .int wy), (3, .int (nI q)), (4, .int b), (5, .int fr), (6, .int n)]) hx hb dX10_play_136 hl (by decide) rfl (fun ls hl => ?_)
                  refine lv_iload hx hb dX10_play_138 (lv_at hl 0 rfl) ?_
                  refine lv_if_eq (tgt := 160) hx hb dX10_play_140 (by decide) (fun h9 => False.elim (by revert h9; exact (fun h => absurd h (by decide)))) (fun _ => ?_)
                  refine lv_aload_n hx hb dX10_play_143 rfl (lv_at hl 2 rfl) ?_
                  refine m_get (ci := 8) (v := .ref b14) (C := RX10) (T := TX10) (N := 21) hx hb hts in_X10_play_X10 hown hE hM g_y rfl 18 (by decide) (hts (.fieldLink RX10 52 "CallWays2Model" "counts" "[I") (by decide +kernel)) (fun _ h9 => h9) rfl dX10_play_144 ?_
                  refine lv_iconst (v := 1) hx hb dX10_play_147 (by decide) ?_
                  refine lv_dup2_11 hx hb dX10_play_148 rfl rfl ?_
                  refine m_iald hx hb hE hM g_b14 in3_1 dX10_play_149 ?_
                  rw [show CT (1 : Int32).toNatClampNeg = c3 from by show CT 1 = c3; exact hc3]
                  refine lv_iconst (v := 1) hx hb dX10_play_150 (by decide) ?_
                  refine lv_iadd hx hb dX10_play_151 ?_
                  refine m_iast hx hb hE hM hS g_b14 in3_1 dX10_play_152 (fun H locs hM hS => ?_)
                  rw [show upd CT (1 : Int32).toNatClampNeg (c3 + 1) = upd CT 1 (c3 + 1) from rfl] at hM
                  have hM : mOK E.1 (mA M sz) (mUp M b14 (mI E 3 (upd CT 1 (c3 + 1)))) H := hM
                  obtain ⟨M55, eM55⟩ : ∃ z, z = mUp M b14 (mI E 3 (upd CT 1 (c3 + 1))) := ⟨_, rfl⟩
                  rw [← eM55] at hM
                  have g_y_ : M55 y = some (mO 8 [.ref b1, .ref b2, .ref b3, .ref b4, .ref b5, .int (nI nn), .ref b6, .ref b7, .ref b8, .ref b9, .ref b10, .ref b11, .int (nI nf), .ref b12, .ref b13, .int bd, .int st, .int fa, .ref b14, .ref b15, .ref b16]) := by rw [eM55]; exact mUp_at (nd_ne hnd 0 14 rfl rfl (by decide)) g_y
                  have g_b1_ : M55 b1 = some (mI E 10 B) := by rw [eM55]; exact mUp_at (nd_ne hnd 1 14 rfl rfl (by decide)) g_b1
                  have g_b2_ : M55 b2 = some (mI E 12 T) := by rw [eM55]; exact mUp_at (nd_ne hnd 2 14 rfl rfl (by decide)) g_b2
                  have g_b3_ : M55 b3 = some (mI E 24 LN) := by rw [eM55]; exact mUp_at (nd_ne hnd 3 14 rfl rfl (by decide)) g_b3
                  have g_b4_ : M55 b4 = some (mI E 24 SZ) := by rw [eM55]; exact mUp_at (nd_ne hnd 4 14 rfl rfl (by decide)) g_b4
                  have g_b5_ : M55 b5 = some (mJ E 960 SM) := by rw [eM55]; exact mUp_at (nd_ne hnd 5 14 rfl rfl (by decide)) g_b5
                  have g_b6_ : M55 b6 = some (mI E 12 SO) := by rw [eM55]; exact mUp_at (nd_ne hnd 6 14 rfl rfl (by decide)) g_b6
                  have g_b7_ : M55 b7 = some (mI E 48 KN) := by rw [eM55]; exact mUp_at (nd_ne hnd 7 14 rfl rfl (by decide)) g_b7
                  have g_b8_ : M55 b8 = some (mI E 12 PI) := by rw [eM55]; exact mUp_at (nd_ne hnd 8 14 rfl rfl (by decide)) g_b8
                  have g_b9_ : M55 b9 = some (mZ E 12 ON) := by rw [eM55]; exact mUp_at (nd_ne hnd 9 14 rfl rfl (by decide)) g_b9
                  have g_b10_ : M55 b10 = some (mI E 12 PH) := by rw [eM55]; exact mUp_at (nd_ne hnd 10 14 rfl rfl (by decide)) g_b10
                  have g_b11_ : M55 b11 = some (mDb E 12 LE) := by rw [eM55]; exact mUp_at (nd_ne hnd 11 14 rfl rfl (by decide)) g_b11
                  have g_b12_ : M55 b12 = some (mI E 8 KD) := by rw [eM55]; exact mUp_at (nd_ne hnd 12 14 rfl rfl (by decide)) g_b12
                  have g_b13_ : M55 b13 = some (mI E 8 NM) := by rw [eM55]; exact mUp_at (nd_ne hnd 13 14 rfl rfl (by decide)) g_b13
                  have g_b15_ : M55 b15 = some (mDb E 40 CM) := by rw [eM55]; exact mUp_at (nd_ne hnd 15 14 rfl rfl (by decide)) g_b15
                  have g_b16_ : M55 b16 = some (mJ E 40 MV) := by rw [eM55]; exact mUp_at (nd_ne hnd 16 14 rfl rfl (by decide)) g_b16
                  have g_y := g_y_
                  have g_b1 := g_b1_
                  have g_b2 := g_b2_
                  have g_b3 := g_b3_
                  have g_b4 := g_b4_
                  have g_b5 := g_b5_
                  have g_b6 := g_b6_
                  have g_b7 := g_b7_
                  have g_b8 := g_b8_
                  have g_b9 := g_b9_
                  have g_b10 := g_b10_
                  have g_b11 := g_b11_
                  have g_b12 := g_b12_
                  have g_b13 := g_b13_
                  have g_b15 := g_b15_
                  have g_b16 := g_b16_
                  have g_b14 : M55 b14 = some (mI E 3 (upd CT 1 (c3 + 1))) := by rw [eM55]; exact mUp_self _ _ _
                  have hk : kept (nol y b1 b2 b3 b4 b5 b6 b7 b8 b9 b10 b11 b12 b13 b14 b15 b16) M M55 := (by rw [eM55]; exact hk.up (nol_in 14 rfl))
                  refine lv_aload_n hx hb dX10_play_153 rfl (lv_at hl 2 rfl) ?_
                  refine lv_iload hx hb dX10_play_154 (lv_at hl 0 rfl) ?_
                  refine m_calli (va_runV (As := [.int (-6 : Int32)]) (rest := []) ⟨hx, hb, hml, hown, hts⟩ (c_X10_says l E M55 H.size y b1 b2 b3 b4 b5 b6 b7 b8 b9 b10 b11 b12 b13 b14 b15 b16 (nI nn) (nI nf) bd st fa (-6 : Int32) g_y) (cwV 1 hts gX10_play_X10_says rfl rfl rfl (by decide +kernel) ⟨Nat.le_of_ble_eq_true rfl, Nat.le_of_ble_eq_true rfl⟩) (m_preV hE hM g_y rfl) rfl rfl hl.1 rfl (lv_room (Nat.le_of_ble_eq_true rfl)) dX10_play_156 ⟨Nat.le_of_ble_eq_true rfl, Nat.le_of_ble_eq_true rfl⟩) hM hS hA (fun r2 M56 H locs hw hM hS => ?_)
                  obtain ⟨e_r2, eM56⟩ := hw
                  subst e_r2
                  have g_b1_ : M56 b1 = some (mI E 10 B) := by rw [eM56]; exact mUp_at (nd_ne hnd 1 0 rfl rfl (by decide)) g_b1
                  have g_b2_ : M56 b2 = some (mI E 12 T) := by rw [eM56]; exact mUp_at (nd_ne hnd 2 0 rfl rfl (by decide)) g_b2
                  have g_b3_ : M56 b3 = some (mI E 24 LN) := by rw [eM56]; exact mUp_at (nd_ne hnd 3 0 rfl rfl (by decide)) g_b3
                  have g_b4_ : M56 b4 = some (mI E 24 SZ) := by rw [eM56]; exact mUp_at (nd_ne hnd 4 0 rfl rfl (by decide)) g_b4
                  have g_b5_ : M56 b5 = some (mJ E 960 SM) := by rw [eM56]; exact mUp_at (nd_ne hnd 5 0 rfl rfl (by decide)) g_b5
                  have g_b6_ : M56 b6 = some (mI E 12 SO) := by rw [eM56]; exact mUp_at (nd_ne hnd 6 0 rfl rfl (by decide)) g_b6
                  have g_b7_ : M56 b7 = some (mI E 48 KN) := by rw [eM56]; exact mUp_at (nd_ne hnd 7 0 rfl rfl (by decide)) g_b7
                  have g_b8_ : M56 b8 = some (mI E 12 PI) := by rw [eM56]; exact mUp_at (nd_ne hnd 8 0 rfl rfl (by decide)) g_b8
                  have g_b9_ : M56 b9 = some (mZ E 12 ON) := by rw [eM56]; exact mUp_at (nd_ne hnd 9 0 rfl rfl (by decide)) g_b9
                  have g_b10_ : M56 b10 = some (mI E 12 PH) := by rw [eM56]; exact mUp_at (nd_ne hnd 10 0 rfl rfl (by decide)) g_b10
                  have g_b11_ : M56 b11 = some (mDb E 12 LE) := by rw [eM56]; exact mUp_at (nd_ne hnd 11 0 rfl rfl (by decide)) g_b11
                  have g_b12_ : M56 b12 = some (mI E 8 KD) := by rw [eM56]; exact mUp_at (nd_ne hnd 12 0 rfl rfl (by decide)) g_b12
                  have g_b13_ : M56 b13 = some (mI E 8 NM) := by rw [eM56]; exact mUp_at (nd_ne hnd 13 0 rfl rfl (by decide)) g_b13
                  have g_b14_ : M56 b14 = some (mI E 3 (upd CT 1 (c3 + 1))) := by rw [eM56]; exact mUp_at (nd_ne hnd 14 0 rfl rfl (by decide)) g_b14
                  have g_b15_ : M56 b15 = some (mDb E 40 CM) := by rw [eM56]; exact mUp_at (nd_ne hnd 15 0 rfl rfl (by decide)) g_b15
                  have g_b16_ : M56 b16 = some (mJ E 40 MV) := by rw [eM56]; exact mUp_at (nd_ne hnd 16 0 rfl rfl (by decide)) g_b16
                  have g_b1 := g_b1_
                  have g_b2 := g_b2_
                  have g_b3 := g_b3_
                  have g_b4 := g_b4_
                  have g_b5 := g_b5_
                  have g_b6 := g_b6_
                  have g_b7 := g_b7_
                  have g_b8 := g_b8_
                  have g_b9 := g_b9_
                  have g_b10 := g_b10_
                  have g_b11 := g_b11_
                  have g_b12 := g_b12_
                  have g_b13 := g_b13_
                  have g_b14 := g_b14_
                  have g_b15 := g_b15_
                  have g_b16 := g_b16_
                  have g_y : M56 y = some (mO 8 [.ref b1, .ref b2, .ref b3, .ref b4, .ref b5, .int (nI nn), .ref b6, .ref b7, .ref b8, .ref b9, .ref b10, .ref b11, .int (nI nf), .ref b12, .ref b13, .int bd, .int (if (-6 : Int32) < 0 then (-6 : Int32) else 0), .int fa, .ref b14, .ref b15, .ref b16]) := by rw [eM56]; exact mUp_self _ _ _
                  have hk : kept (nol y b1 b2 b3 b4 b5 b6 b7 b8 b9 b10 b11 b12 b13 b14 b15 b16) M M56 := (by rw [eM56]; exact hk.up (nol_in 0 rfl))
                  rw [if_pos (show (-6 : Int32) < 0 by decide)] at g_y
                  exact m_iret hx hb hr hlocks hM hS (Nat.le_refl _) (Nat.le_refl _) dX10_play_159 (by refine ⟨(by show _ = (if vPl nn nf (nI j) wy (nI q) b then (if plF bk rw bd b wy fr n = 0 then _ else plF bk rw bd b wy fr n) else -1); rw [if_pos hvp, hpf]; rfl), ?_, hk⟩; show mR E _ y b1 b2 b3 b4 b5 b6 b7 b8 b9 b10 b11 b12 b13 b14 b15 b16 (if vPl nn nf (nI j) wy (nI q) b then (if plF bk rw bd b wy fr n = 0 then _ else (nn, ins, nf, fn, bk, rw, bd, plF bk rw bd b wy fr n, c2, c3 + 1, c4)) else _); rw [if_pos hvp, hpf]; rw [if_neg (by decide)]; exact ⟨_, _, _, _, _, _, _, _, _, _, _, _, _, _, _, _, _, ⟨g_y, g_b1, g_b2, g_b3, g_b4, g_b5, g_b6, g_b7, g_b8, g_b9, g_b10, g_b11, g_b12, g_b13, g_b14, g_b15, g_b16⟩, hB, hT, hR, hN, hF, (by show upd CT 1 (c3 + 1) 0 = c2; rw [upd_o (by decide)]; exact hc2), upd_s, (by show upd CT 1 (c3 + 1) 2 = c4; rw [upd_o (by decide)]; exact hc4)⟩)
          · skip
            rw [bI_eq] at c_44
            have hz : ¬ (vPl nn nf i wy f0 b) := fun z => (z.2.1.elim (fun y9 => absurd (y9.symm.trans hw2) (by decide)) (fun y9 => y9.elim (fun y8 => absurd (y8.symm.trans hw2) (by decide)) (fun y8 => c_44 y8.2)))
            refine lv_aload_n hx hb dX10_play_47 rfl (lv_at hl 0 rfl) ?_
            refine lv_iconst (v := -1) hx hb dX10_play_48 (by decide) ?_
            refine m_calli (va_runV (As := [.int (-1)]) (rest := []) ⟨hx, hb, hml, hown, hts⟩ (c_X10_says l E M H.size y b1 b2 b3 b4 b5 b6 b7 b8 b9 b10 b11 b12 b13 b14 b15 b16 (nI nn) (nI nf) bd st fa (-1 : Int32) g_y) (cwV 1 hts gX10_play_X10_says rfl rfl rfl (by decide +kernel) ⟨Nat.le_of_ble_eq_true rfl, Nat.le_of_ble_eq_true rfl⟩) (m_preV hE hM g_y rfl) rfl rfl hl.1 rfl (lv_room (Nat.le_of_ble_eq_true rfl)) dX10_play_49 ⟨Nat.le_of_ble_eq_true rfl, Nat.le_of_ble_eq_true rfl⟩) hM hS hA (fun r2 M57 H locs hw hM hS => ?_)
            obtain ⟨e_r2, eM57⟩ := hw
            subst e_r2
            have g_b1_ : M57 b1 = some (mI E 10 B) := by rw [eM57]; exact mUp_at (nd_ne hnd 1 0 rfl rfl (by decide)) g_b1
            have g_b2_ : M57 b2 = some (mI E 12 T) := by rw [eM57]; exact mUp_at (nd_ne hnd 2 0 rfl rfl (by decide)) g_b2
            have g_b3_ : M57 b3 = some (mI E 24 LN) := by rw [eM57]; exact mUp_at (nd_ne hnd 3 0 rfl rfl (by decide)) g_b3
            have g_b4_ : M57 b4 = some (mI E 24 SZ) := by rw [eM57]; exact mUp_at (nd_ne hnd 4 0 rfl rfl (by decide)) g_b4
            have g_b5_ : M57 b5 = some (mJ E 960 SM) := by rw [eM57]; exact mUp_at (nd_ne hnd 5 0 rfl rfl (by decide)) g_b5
            have g_b6_ : M57 b6 = some (mI E 12 SO) := by rw [eM57]; exact mUp_at (nd_ne hnd 6 0 rfl rfl (by decide)) g_b6
            have g_b7_ : M57 b7 = some (mI E 48 KN) := by rw [eM57]; exact mUp_at (nd_ne hnd 7 0 rfl rfl (by decide)) g_b7
            have g_b8_ : M57 b8 = some (mI E 12 PI) := by rw [eM57]; exact mUp_at (nd_ne hnd 8 0 rfl rfl (by decide)) g_b8
            have g_b9_ : M57 b9 = some (mZ E 12 ON) := by rw [eM57]; exact mUp_at (nd_ne hnd 9 0 rfl rfl (by decide)) g_b9
            have g_b10_ : M57 b10 = some (mI E 12 PH) := by rw [eM57]; exact mUp_at (nd_ne hnd 10 0 rfl rfl (by decide)) g_b10
            have g_b11_ : M57 b11 = some (mDb E 12 LE) := by rw [eM57]; exact mUp_at (nd_ne hnd 11 0 rfl rfl (by decide)) g_b11
            have g_b12_ : M57 b12 = some (mI E 8 KD) := by rw [eM57]; exact mUp_at (nd_ne hnd 12 0 rfl rfl (by decide)) g_b12
            have g_b13_ : M57 b13 = some (mI E 8 NM) := by rw [eM57]; exact mUp_at (nd_ne hnd 13 0 rfl rfl (by decide)) g_b13
            have g_b14_ : M57 b14 = some (mI E 3 CT) := by rw [eM57]; exact mUp_at (nd_ne hnd 14 0 rfl rfl (by decide)) g_b14
            have g_b15_ : M57 b15 = some (mDb E 40 CM) := by rw [eM57]; exact mUp_at (nd_ne hnd 15 0 rfl rfl (by decide)) g_b15
            have g_b16_ : M57 b16 = some (mJ E 40 MV) := by rw [eM57]; exact mUp_at (nd_ne hnd 16 0 rfl rfl (by decide)) g_b16
            have g_b1 := g_b1_
            have g_b2 := g_b2_
            have g_b3 := g_b3_
            have g_b4 := g_b4_
            have g_b5 := g_b5_
            have g_b6 := g_b6_
            have g_b7 := g_b7_
            have g_b8 := g_b8_
            have g_b9 := g_b9_
            have g_b10 := g_b10_
            have g_b11 := g_b11_
            have g_b12 := g_b12_
            have g_b13 := g_b13_
            have g_b14 := g_b14_
            have g_b15 := g_b15_
            have g_b16 := g_b16_
            have g_y : M57 y = some (mO 8 [.ref b1, .ref b2, .ref b3, .ref b4, .ref b5, .int (nI nn), .ref b6, .ref b7, .ref b8, .ref b9, .ref b10, .ref b11, .int (nI nf), .ref b12, .ref b13, .int bd, .int (if (-1 : Int32) < 0 then (-1 : Int32) else 0), .int fa, .ref b14, .ref b15, .ref b16]) := by rw [eM57]; exact mUp_self _ _ _
            have hk : kept (nol y b1 b2 b3 b4 b5 b6 b7 b8 b9 b10 b11 b12 b13 b14 b15 b16) M M57 := (by rw [eM57]; exact hk.up (nol_in 0 rfl))
            rw [if_pos (show (-1 : Int32) < 0 by decide)] at g_y
            exact m_iret hx hb hr hlocks hM hS (Nat.le_refl _) (Nat.le_refl _) dX10_play_52 (by refine ⟨(if_neg hz).symm, ?_, hk⟩; show mR E _ y b1 b2 b3 b4 b5 b6 b7 b8 b9 b10 b11 b12 b13 b14 b15 b16 (if vPl nn nf i wy f0 b then _ else _); rw [if_neg hz]; exact ⟨_, _, _, _, _, _, _, _, _, _, _, _, _, _, _, _, _, ⟨g_y, g_b1, g_b2, g_b3, g_b4, g_b5, g_b6, g_b7, g_b8, g_b9, g_b10, g_b11, g_b12, g_b13, g_b14, g_b15, g_b16⟩, hB, hT, hR, hN, hF, hc2, hc3, hc4⟩)
