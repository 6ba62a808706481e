def mns (k : Nat) : Nat → Int32 := fun q => if q < k then -1 else 0
theorem mns_0 : mns 0 = fun _ => 0 := by
  funext q
  simp [mns]
theorem mns_s (k : Nat) : upd (mns k) k (-1) = mns (k + 1) := by
  funext q
  by_cases h : q = k
  · subst h
    simp [upd, mns]
  · simp only [upd, mns, h, if_false]
    by_cases h1 : q < k
    · rw [if_pos h1, if_pos (by omega)]
    · rw [if_neg h1, if_neg (by omega)]
theorem mR0 {E : mEnv} {M : mMem} {y b1 b2 b3 b4 b5 b6 b7 b8 b9 b10 b11 b12 b13 b14 b15 b16 : Nat} (h : mCl E M y b1 b2 b3 b4 b5 b6 b7 b8 b9 b10 b11 b12 b13 b14 b15 b16 (nI 0) (nI 0) (-1) 0 0 (mns 10) (mns 12) (fun _ => 0) (fun _ => 0) (fun _ => 0) (fun _ => 0) (fun _ => 0) (fun _ => 0) (fun _ => 0) (fun _ => 0) (fun _ => 0) (fun _ => 0) (fun _ => 0) (fun _ => 0) (fun _ => 0) (fun _ => 0)) : mR E M y b1 b2 b3 b4 b5 b6 b7 b8 b9 b10 b11 b12 b13 b14 b15 b16 sg0 := by
  have hl : ∀ r, ¬ live 0 (fun _ => ((6, (fun _ => 0), 0, 0, 0, 0, none) : sIn)) (fun _ => none) r := by
    rintro r (⟨k, _, h⟩ | ⟨i, h, _⟩)
    · cases h
    · omega
  refine ⟨_, _, _, _, _, _, _, _, _, _, _, _, _, _, _, _, _, h, fun k hk => if_pos hk, fun k hk => if_pos hk, fun r hr => absurd hr (hl r), ?_, fun i hi => absurd hi (by omega), rfl, rfl, rfl⟩
  intro i hi ci kf pi on ph le tb he
  simp only [Prod.mk.injEq] at he
  obtain ⟨rfl, rfl, rfl, rfl, rfl, rfl, rfl⟩ := he
  exact ⟨fun h => absurd h (by omega), fun k hk => rfl, rfl, rfl, rfl, fun _ => rfl⟩
theorem in_X10_init_X10 : ∀ w ∈ wsX100, w ∈ wsX10_init := by decide +kernel
set_option maxHeartbeats 4000000 in
set_option maxRecDepth 100000 in
theorem c_X10_init (l : Launch) (E : mEnv) (M : mMem) (sz : Nat) (y : Nat) (g_y : M y = some (mO 8 [.null, .null, .null, .null, .null, .int 0, .null, .null, .null, .null, .null, .null, .int 0, .null, .null, .int 0, .int 0, .int 0, .null, .null, .null]))  : Met l yX10_init wsX10_init ({ frames := 1, cells := 16, slots := 1237, locals := 12 }) (mPre E M sz [.ref y]) (mQv E M sz (fun u => ∃ b1 b2 b3 b4 b5 b6 b7 b8 b9 b10 b11 b12 b13 b14 b15 b16 : Nat, mR E u y b1 b2 b3 b4 b5 b6 b7 b8 b9 b10 b11 b12 b13 b14 b15 b16 sg0 ∧ [y, b1, b2, b3, b4, b5, b6, b7, b8, b9, b10, b11, b12, b13, b14, b15, b16].Nodup ∧ (∀ z, z ∈ [b1, b2, b3, b4, b5, b6, b7, b8, b9, b10, b11, b12, b13, b14, b15, b16] → M z = none) ∧ ∀ q, M q ≠ none → q ≠ y → u q = M q)) (16) (1237) (mA M sz) := by
  refine m_met [.ref y] (by decide) rfl (Nat.le_of_ble_eq_true rfl) ?_
  intro p e s m below meth c ls H eH hx hb hr hts hown hlocks hnm hml hsz hE hM hS hA hl
  have hl : lv_has ls 2 [(0, .ref y)] := hl
  have hN : ∀ q, M q = none → M q = none := fun _ h => h
  have hQ : ∀ q, M q ≠ none → q ≠ y → M q = M q := fun _ _ _ => rfl
  refine lv_aload_n hx hb dX10_init_0 rfl (lv_at hl 0 rfl) ?_
  refine W.objInit hx hb hown (hts (.methodLink RX10 1 objectInit) (by decide +kernel)) (hts (.instanceMethod objectInit) (by decide +kernel)) (hts (.code objectInit ⟨#[0xb1]⟩ 1 none) (by decide +kernel)) rfl (by rw [hml]; exact hl.1) rfl dX10_init_1 (Nat.le_of_ble_eq_true rfl) (Nat.le_of_ble_eq_true rfl) ?_
  refine W.eq (g2 := F0 m 4 ls []) rfl ?_
  refine lv_aload_n hx hb dX10_init_4 rfl (lv_at hl 0 rfl) ?_
  refine lv_bipush (v := 10) hx hb dX10_init_5 (by decide) ?_
  refine m_newI (N' := 10) hx hb (hts (.arrayClass .int) (by decide +kernel)) hE hM hS hA (by decide) (by decide) (by decide) (by show 0 + 1 ≤ 16; omega) (by show 0 + 10 ≤ 1237; omega) dX10_init_7 (fun b1 H n_b1 hM hS => ?_)
  have ne_y_b1 : y ≠ b1 := m_neN g_y n_b1
  have k_b1 : M b1 = none := hN b1 n_b1
  have hM : mOK E.1 (mA M sz) (mUp M b1 (mI E 10 (fun _ => 0))) H := hM
  obtain ⟨M1, eM1⟩ : ∃ z, z = mUp M b1 (mI E 10 (fun _ => 0)) := ⟨_, rfl⟩
  rw [← eM1] at hM
  have g_y : M1 y = some (mO 8 [.null, .null, .null, .null, .null, .int 0, .null, .null, .null, .null, .null, .null, .int 0, .null, .null, .int 0, .int 0, .int 0, .null, .null, .null]) := by rw [eM1]; exact mUp_at (m_neN g_y n_b1) g_y
  have g_b1 : M1 b1 = some (mI E 10 (fun _ => 0)) := by rw [eM1]; exact mUp_self _ _ _
  have hQ : ∀ q, M q ≠ none → q ≠ y → M1 q = M q := fun q hq hqy => (congrFun eM1 q).trans ((mUp_ne (fun z => hq (by rw [z]; exact k_b1))).trans (hQ q hq hqy))
  have hN : ∀ q, M1 q = none → M q = none := fun q hq => hN q (mUp_none (by rw [← eM1]; exact hq)).2
  refine m_putF (ci := 8) (v := .ref b1) (ty := .array .int) (C := RX10) (T := TX10) (N := 21) hx hb hts in_X10_init_X10 tyX10 tyX10_ok nmX10 hown hE hM hS g_y rfl 0 (by decide) (hts (.fieldLink RX10 7 "CallWays2Model" "blocks" "[I") (by decide +kernel)) (fun _ h9 => h9) rfl hnm rfl (by decide +kernel) rfl rfl (Nat.le_of_ble_eq_true rfl) dX10_init_9 (fun H locs hM hS => ?_)
  have hM : mOK E.1 (mA M sz) (mUp M1 y (mO 8 [.ref b1, .null, .null, .null, .null, .int 0, .null, .null, .null, .null, .null, .null, .int 0, .null, .null, .int 0, .int 0, .int 0, .null, .null, .null])) H := hM
  obtain ⟨M2, eM2⟩ : ∃ z, z = mUp M1 y (mO 8 [.ref b1, .null, .null, .null, .null, .int 0, .null, .null, .null, .null, .null, .null, .int 0, .null, .null, .int 0, .int 0, .int 0, .null, .null, .null]) := ⟨_, rfl⟩
  rw [← eM2] at hM
  have g_b1_ : M2 b1 = some (mI E 10 (fun _ => 0)) := by rw [eM2]; exact mUp_at (Ne.symm ne_y_b1) g_b1
  have g_b1 := g_b1_
  have g_y : M2 y = some (mO 8 [.ref b1, .null, .null, .null, .null, .int 0, .null, .null, .null, .null, .null, .null, .int 0, .null, .null, .int 0, .int 0, .int 0, .null, .null, .null]) := by rw [eM2]; exact mUp_self _ _ _
  have hQ : ∀ q, M q ≠ none → q ≠ y → M2 q = M q := fun q hq hqy => (by rw [eM2, mUp_ne hqy]; exact hQ q hq hqy)
  have hN : ∀ q, M2 q = none → M q = none := fun q hq => hN q (mUp_none (by rw [← eM2]; exact hq)).2
  refine lv_aload_n hx hb dX10_init_12 rfl (lv_at hl 0 rfl) ?_
  refine lv_bipush (v := 12) hx hb dX10_init_13 (by decide) ?_
  refine m_newI (N' := 12) hx hb (hts (.arrayClass .int) (by decide +kernel)) hE hM hS hA (by decide) (by decide) (by decide) (by show 0 + 1 + 1 ≤ 16; omega) (by show 0 + 10 + 12 ≤ 1237; omega) dX10_init_15 (fun b2 H n_b2 hM hS => ?_)
  have ne_y_b2 : y ≠ b2 := m_neN g_y n_b2
  have ne_b1_b2 : b1 ≠ b2 := m_neN g_b1 n_b2
  have k_b2 : M b2 = none := hN b2 n_b2
  have hM : mOK E.1 (mA M sz) (mUp M2 b2 (mI E 12 (fun _ => 0))) H := hM
  obtain ⟨M3, eM3⟩ : ∃ z, z = mUp M2 b2 (mI E 12 (fun _ => 0)) := ⟨_, rfl⟩
  rw [← eM3] at hM
  have g_y : M3 y = some (mO 8 [.ref b1, .null, .null, .null, .null, .int 0, .null, .null, .null, .null, .null, .null, .int 0, .null, .null, .int 0, .int 0, .int 0, .null, .null, .null]) := by rw [eM3]; exact mUp_at (m_neN g_y n_b2) g_y
  have g_b1 : M3 b1 = some (mI E 10 (fun _ => 0)) := by rw [eM3]; exact mUp_at (m_neN g_b1 n_b2) g_b1
  have g_b2 : M3 b2 = some (mI E 12 (fun _ => 0)) := by rw [eM3]; exact mUp_self _ _ _
  have hQ : ∀ q, M q ≠ none → q ≠ y → M3 q = M q := fun q hq hqy => (congrFun eM3 q).trans ((mUp_ne (fun z => hq (by rw [z]; exact k_b2))).trans (hQ q hq hqy))
  have hN : ∀ q, M3 q = none → M q = none := fun q hq => hN q (mUp_none (by rw [← eM3]; exact hq)).2
  refine m_putF (ci := 8) (v := .ref b2) (ty := .array .int) (C := RX10) (T := TX10) (N := 21) hx hb hts in_X10_init_X10 tyX10 tyX10_ok nmX10 hown hE hM hS g_y rfl 1 (by decide) (hts (.fieldLink RX10 13 "CallWays2Model" "tables" "[I") (by decide +kernel)) (fun _ h9 => h9) rfl hnm rfl (by decide +kernel) rfl rfl (Nat.le_of_ble_eq_true rfl) dX10_init_17 (fun H locs hM hS => ?_)
  have hM : mOK E.1 (mA M sz) (mUp M3 y (mO 8 [.ref b1, .ref b2, .null, .null, .null, .int 0, .null, .null, .null, .null, .null, .null, .int 0, .null, .null, .int 0, .int 0, .int 0, .null, .null, .null])) H := hM
  obtain ⟨M4, eM4⟩ : ∃ z, z = mUp M3 y (mO 8 [.ref b1, .ref b2, .null, .null, .null, .int 0, .null, .null, .null, .null, .null, .null, .int 0, .null, .null, .int 0, .int 0, .int 0, .null, .null, .null]) := ⟨_, rfl⟩
  rw [← eM4] at hM
  have g_b1_ : M4 b1 = some (mI E 10 (fun _ => 0)) := by rw [eM4]; exact mUp_at (Ne.symm ne_y_b1) g_b1
  have g_b2_ : M4 b2 = some (mI E 12 (fun _ => 0)) := by rw [eM4]; exact mUp_at (Ne.symm ne_y_b2) g_b2
  have g_b1 := g_b1_
  have g_b2 := g_b2_
  have g_y : M4 y = some (mO 8 [.ref b1, .ref b2, .null, .null, .null, .int 0, .null, .null, .null, .null, .null, .null, .int 0, .null, .null, .int 0, .int 0, .int 0, .null, .null, .null]) := by rw [eM4]; exact mUp_self _ _ _
  have hQ : ∀ q, M q ≠ none → q ≠ y → M4 q = M q := fun q hq hqy => (by rw [eM4, mUp_ne hqy]; exact hQ q hq hqy)
  have hN : ∀ q, M4 q = none → M q = none := fun q hq => hN q (mUp_none (by rw [← eM4]; exact hq)).2
  refine lv_aload_n hx hb dX10_init_20 rfl (lv_at hl 0 rfl) ?_
  refine lv_bipush (v := 24) hx hb dX10_init_21 (by decide) ?_
  refine m_newI (N' := 24) hx hb (hts (.arrayClass .int) (by decide +kernel)) hE hM hS hA (by decide) (by decide) (by decide) (by show 0 + 1 + 1 + 1 ≤ 16; omega) (by show 0 + 10 + 12 + 24 ≤ 1237; omega) dX10_init_23 (fun b3 H n_b3 hM hS => ?_)
  have ne_y_b3 : y ≠ b3 := m_neN g_y n_b3
  have ne_b1_b3 : b1 ≠ b3 := m_neN g_b1 n_b3
  have ne_b2_b3 : b2 ≠ b3 := m_neN g_b2 n_b3
  have k_b3 : M b3 = none := hN b3 n_b3
  have hM : mOK E.1 (mA M sz) (mUp M4 b3 (mI E 24 (fun _ => 0))) H := hM
  obtain ⟨M5, eM5⟩ : ∃ z, z = mUp M4 b3 (mI E 24 (fun _ => 0)) := ⟨_, rfl⟩
  rw [← eM5] at hM
  have g_y : M5 y = some (mO 8 [.ref b1, .ref b2, .null, .null, .null, .int 0, .null, .null, .null, .null, .null, .null, .int 0, .null, .null, .int 0, .int 0, .int 0, .null, .null, .null]) := by rw [eM5]; exact mUp_at (m_neN g_y n_b3) g_y
  have g_b1 : M5 b1 = some (mI E 10 (fun _ => 0)) := by rw [eM5]; exact mUp_at (m_neN g_b1 n_b3) g_b1
  have g_b2 : M5 b2 = some (mI E 12 (fun _ => 0)) := by rw [eM5]; exact mUp_at (m_neN g_b2 n_b3) g_b2
  have g_b3 : M5 b3 = some (mI E 24 (fun _ => 0)) := by rw [eM5]; exact mUp_self _ _ _
  have hQ : ∀ q, M q ≠ none → q ≠ y → M5 q = M q := fun q hq hqy => (congrFun eM5 q).trans ((mUp_ne (fun z => hq (by rw [z]; exact k_b3))).trans (hQ q hq hqy))
  have hN : ∀ q, M5 q = none → M q = none := fun q hq => hN q (mUp_none (by rw [← eM5]; exact hq)).2
  refine m_putF (ci := 8) (v := .ref b3) (ty := .array .int) (C := RX10) (T := TX10) (N := 21) hx hb hts in_X10_init_X10 tyX10 tyX10_ok nmX10 hown hE hM hS g_y rfl 2 (by decide) (hts (.fieldLink RX10 16 "CallWays2Model" "laneOf" "[I") (by decide +kernel)) (fun _ h9 => h9) rfl hnm rfl (by decide +kernel) rfl rfl (Nat.le_of_ble_eq_true rfl) dX10_init_25 (fun H locs hM hS => ?_)
  have hM : mOK E.1 (mA M sz) (mUp M5 y (mO 8 [.ref b1, .ref b2, .ref b3, .null, .null, .int 0, .null, .null, .null, .null, .null, .null, .int 0, .null, .null, .int 0, .int 0, .int 0, .null, .null, .null])) H := hM
  obtain ⟨M6, eM6⟩ : ∃ z, z = mUp M5 y (mO 8 [.ref b1, .ref b2, .ref b3, .null, .null, .int 0, .null, .null, .null, .null, .null, .null, .int 0, .null, .null, .int 0, .int 0, .int 0, .null, .null, .null]) := ⟨_, rfl⟩
  rw [← eM6] at hM
  have g_b1_ : M6 b1 = some (mI E 10 (fun _ => 0)) := by rw [eM6]; exact mUp_at (Ne.symm ne_y_b1) g_b1
  have g_b2_ : M6 b2 = some (mI E 12 (fun _ => 0)) := by rw [eM6]; exact mUp_at (Ne.symm ne_y_b2) g_b2
  have g_b3_ : M6 b3 = some (mI E 24 (fun _ => 0)) := by rw [eM6]; exact mUp_at (Ne.symm ne_y_b3) g_b3
  have g_b1 := g_b1_
  have g_b2 := g_b2_
  have g_b3 := g_b3_
  have g_y : M6 y = some (mO 8 [.ref b1, .ref b2, .ref b3, .null, .null, .int 0, .null, .null, .null, .null, .null, .null, .int 0, .null, .null, .int 0, .int 0, .int 0, .null, .null, .null]) := by rw [eM6]; exact mUp_self _ _ _
  have hQ : ∀ q, M q ≠ none → q ≠ y → M6 q = M q := fun q hq hqy => (by rw [eM6, mUp_ne hqy]; exact hQ q hq hqy)
  have hN : ∀ q, M6 q = none → M q = none := fun q hq => hN q (mUp_none (by rw [← eM6]; exact hq)).2
  refine lv_aload_n hx hb dX10_init_28 rfl (lv_at hl 0 rfl) ?_
  refine lv_bipush (v := 24) hx hb dX10_init_29 (by decide) ?_
  refine m_newI (N' := 24) hx hb (hts (.arrayClass .int) (by decide +kernel)) hE hM hS hA (by decide) (by decide) (by decide) (by show 0 + 1 + 1 + 1 + 1 ≤ 16; omega) (by show 0 + 10 + 12 + 24 + 24 ≤ 1237; omega) dX10_init_31 (fun b4 H n_b4 hM hS => ?_)
  have ne_y_b4 : y ≠ b4 := m_neN g_y n_b4
  have ne_b1_b4 : b1 ≠ b4 := m_neN g_b1 n_b4
  have ne_b2_b4 : b2 ≠ b4 := m_neN g_b2 n_b4
  have ne_b3_b4 : b3 ≠ b4 := m_neN g_b3 n_b4
  have k_b4 : M b4 = none := hN b4 n_b4
  have hM : mOK E.1 (mA M sz) (mUp M6 b4 (mI E 24 (fun _ => 0))) H := hM
  obtain ⟨M7, eM7⟩ : ∃ z, z = mUp M6 b4 (mI E 24 (fun _ => 0)) := ⟨_, rfl⟩
  rw [← eM7] at hM
  have g_y : M7 y = some (mO 8 [.ref b1, .ref b2, .ref b3, .null, .null, .int 0, .null, .null, .null, .null, .null, .null, .int 0, .null, .null, .int 0, .int 0, .int 0, .null, .null, .null]) := by rw [eM7]; exact mUp_at (m_neN g_y n_b4) g_y
  have g_b1 : M7 b1 = some (mI E 10 (fun _ => 0)) := by rw [eM7]; exact mUp_at (m_neN g_b1 n_b4) g_b1
  have g_b2 : M7 b2 = some (mI E 12 (fun _ => 0)) := by rw [eM7]; exact mUp_at (m_neN g_b2 n_b4) g_b2
  have g_b3 : M7 b3 = some (mI E 24 (fun _ => 0)) := by rw [eM7]; exact mUp_at (m_neN g_b3 n_b4) g_b3
  have g_b4 : M7 b4 = some (mI E 24 (fun _ => 0)) := by rw [eM7]; exact mUp_self _ _ _
  have hQ : ∀ q, M q ≠ none → q ≠ y → M7 q = M q := fun q hq hqy => (congrFun eM7 q).trans ((mUp_ne (fun z => hq (by rw [z]; exact k_b4))).trans (hQ q hq hqy))
  have hN : ∀ q, M7 q = none → M q = none := fun q hq => hN q (mUp_none (by rw [← eM7]; exact hq)).2
  refine m_putF (ci := 8) (v := .ref b4) (ty := .array .int) (C := RX10) (T := TX10) (N := 21) hx hb hts in_X10_init_X10 tyX10 tyX10_ok nmX10 hown hE hM hS g_y rfl 3 (by decide) (hts (.fieldLink RX10 19 "CallWays2Model" "sizeOf" "[I") (by decide +kernel)) (fun _ h9 => h9) rfl hnm rfl (by decide +kernel) rfl rfl (Nat.le_of_ble_eq_true rfl) dX10_init_33 (fun H locs hM hS => ?_)
  have hM : mOK E.1 (mA M sz) (mUp M7 y (mO 8 [.ref b1, .ref b2, .ref b3, .ref b4, .null, .int 0, .null, .null, .null, .null, .null, .null, .int 0, .null, .null, .int 0, .int 0, .int 0, .null, .null, .null])) H := hM
  obtain ⟨M8, eM8⟩ : ∃ z, z = mUp M7 y (mO 8 [.ref b1, .ref b2, .ref b3, .ref b4, .null, .int 0, .null, .null, .null, .null, .null, .null, .int 0, .null, .null, .int 0, .int 0, .int 0, .null, .null, .null]) := ⟨_, rfl⟩
  rw [← eM8] at hM
  have g_b1_ : M8 b1 = some (mI E 10 (fun _ => 0)) := by rw [eM8]; exact mUp_at (Ne.symm ne_y_b1) g_b1
  have g_b2_ : M8 b2 = some (mI E 12 (fun _ => 0)) := by rw [eM8]; exact mUp_at (Ne.symm ne_y_b2) g_b2
  have g_b3_ : M8 b3 = some (mI E 24 (fun _ => 0)) := by rw [eM8]; exact mUp_at (Ne.symm ne_y_b3) g_b3
  have g_b4_ : M8 b4 = some (mI E 24 (fun _ => 0)) := by rw [eM8]; exact mUp_at (Ne.symm ne_y_b4) g_b4
  have g_b1 := g_b1_
  have g_b2 := g_b2_
  have g_b3 := g_b3_
  have g_b4 := g_b4_
  have g_y : M8 y = some (mO 8 [.ref b1, .ref b2, .ref b3, .ref b4, .null, .int 0, .null, .null, .null, .null, .null, .null, .int 0, .null, .null, .int 0, .int 0, .int 0, .null, .null, .null]) := by rw [eM8]; exact mUp_self _ _ _
  have hQ : ∀ q, M q ≠ none → q ≠ y → M8 q = M q := fun q hq hqy => (by rw [eM8, mUp_ne hqy]; exact hQ q hq hqy)
  have hN : ∀ q, M8 q = none → M q = none := fun q hq => hN q (mUp_none (by rw [← eM8]; exact hq)).2
  refine lv_aload_n hx hb dX10_init_36 rfl (lv_at hl 0 rfl) ?_
  refine lv_sipush (v := 960) hx hb dX10_init_37 (by decide) ?_
  refine m_newJ (N' := 960) hx hb (hts (.arrayClass .long) (by decide +kernel)) hE hM hS hA (by decide) (by decide) (by decide) (by show 0 + 1 + 1 + 1 + 1 + 1 ≤ 16; omega) (by show 0 + 10 + 12 + 24 + 24 + 960 ≤ 1237; omega) dX10_init_40 (fun b5 H n_b5 hM hS => ?_)
  have ne_y_b5 : y ≠ b5 := m_neN g_y n_b5
  have ne_b1_b5 : b1 ≠ b5 := m_neN g_b1 n_b5
  have ne_b2_b5 : b2 ≠ b5 := m_neN g_b2 n_b5
  have ne_b3_b5 : b3 ≠ b5 := m_neN g_b3 n_b5
  have ne_b4_b5 : b4 ≠ b5 := m_neN g_b4 n_b5
  have k_b5 : M b5 = none := hN b5 n_b5
  have hM : mOK E.1 (mA M sz) (mUp M8 b5 (mJ E 960 (fun _ => 0))) H := hM
  obtain ⟨M9, eM9⟩ : ∃ z, z = mUp M8 b5 (mJ E 960 (fun _ => 0)) := ⟨_, rfl⟩
  rw [← eM9] at hM
  have g_y : M9 y = some (mO 8 [.ref b1, .ref b2, .ref b3, .ref b4, .null, .int 0, .null, .null, .null, .null, .null, .null, .int 0, .null, .null, .int 0, .int 0, .int 0, .null, .null, .null]) := by rw [eM9]; exact mUp_at (m_neN g_y n_b5) g_y
  have g_b1 : M9 b1 = some (mI E 10 (fun _ => 0)) := by rw [eM9]; exact mUp_at (m_neN g_b1 n_b5) g_b1
  have g_b2 : M9 b2 = some (mI E 12 (fun _ => 0)) := by rw [eM9]; exact mUp_at (m_neN g_b2 n_b5) g_b2
  have g_b3 : M9 b3 = some (mI E 24 (fun _ => 0)) := by rw [eM9]; exact mUp_at (m_neN g_b3 n_b5) g_b3
  have g_b4 : M9 b4 = some (mI E 24 (fun _ => 0)) := by rw [eM9]; exact mUp_at (m_neN g_b4 n_b5) g_b4
  have g_b5 : M9 b5 = some (mJ E 960 (fun _ => 0)) := by rw [eM9]; exact mUp_self _ _ _
  have hQ : ∀ q, M q ≠ none → q ≠ y → M9 q = M q := fun q hq hqy => (congrFun eM9 q).trans ((mUp_ne (fun z => hq (by rw [z]; exact k_b5))).trans (hQ q hq hqy))
  have hN : ∀ q, M9 q = none → M q = none := fun q hq => hN q (mUp_none (by rw [← eM9]; exact hq)).2
  refine m_putF (ci := 8) (v := .ref b5) (ty := .array .long) (C := RX10) (T := TX10) (N := 21) hx hb hts in_X10_init_X10 tyX10 tyX10_ok nmX10 hown hE hM hS g_y rfl 4 (by decide) (hts (.fieldLink RX10 22 "CallWays2Model" "samples" "[J") (by decide +kernel)) (fun _ h9 => h9) rfl hnm rfl (by decide +kernel) rfl rfl (Nat.le_of_ble_eq_true rfl) dX10_init_42 (fun H locs hM hS => ?_)
  have hM : mOK E.1 (mA M sz) (mUp M9 y (mO 8 [.ref b1, .ref b2, .ref b3, .ref b4, .ref b5, .int 0, .null, .null, .null, .null, .null, .null, .int 0, .null, .null, .int 0, .int 0, .int 0, .null, .null, .null])) H := hM
  obtain ⟨M10, eM10⟩ : ∃ z, z = mUp M9 y (mO 8 [.ref b1, .ref b2, .ref b3, .ref b4, .ref b5, .int 0, .null, .null, .null, .null, .null, .null, .int 0, .null, .null, .int 0, .int 0, .int 0, .null, .null, .null]) := ⟨_, rfl⟩
  rw [← eM10] at hM
  have g_b1_ : M10 b1 = some (mI E 10 (fun _ => 0)) := by rw [eM10]; exact mUp_at (Ne.symm ne_y_b1) g_b1
  have g_b2_ : M10 b2 = some (mI E 12 (fun _ => 0)) := by rw [eM10]; exact mUp_at (Ne.symm ne_y_b2) g_b2
  have g_b3_ : M10 b3 = some (mI E 24 (fun _ => 0)) := by rw [eM10]; exact mUp_at (Ne.symm ne_y_b3) g_b3
  have g_b4_ : M10 b4 = some (mI E 24 (fun _ => 0)) := by rw [eM10]; exact mUp_at (Ne.symm ne_y_b4) g_b4
  have g_b5_ : M10 b5 = some (mJ E 960 (fun _ => 0)) := by rw [eM10]; exact mUp_at (Ne.symm ne_y_b5) g_b5
  have g_b1 := g_b1_
  have g_b2 := g_b2_
  have g_b3 := g_b3_
  have g_b4 := g_b4_
  have g_b5 := g_b5_
  have g_y : M10 y = some (mO 8 [.ref b1, .ref b2, .ref b3, .ref b4, .ref b5, .int 0, .null, .null, .null, .null, .null, .null, .int 0, .null, .null, .int 0, .int 0, .int 0, .null, .null, .null]) := by rw [eM10]; exact mUp_self _ _ _
  have hQ : ∀ q, M q ≠ none → q ≠ y → M10 q = M q := fun q hq hqy => (by rw [eM10, mUp_ne hqy]; exact hQ q hq hqy)
  have hN : ∀ q, M10 q = none → M q = none := fun q hq => hN q (mUp_none (by rw [← eM10]; exact hq)).2
  refine lv_aload_n hx hb dX10_init_45 rfl (lv_at hl 0 rfl) ?_
  refine lv_bipush (v := 12) hx hb dX10_init_46 (by decide) ?_
  refine m_newI (N' := 12) hx hb (hts (.arrayClass .int) (by decide +kernel)) hE hM hS hA (by decide) (by decide) (by decide) (by show 0 + 1 + 1 + 1 + 1 + 1 + 1 ≤ 16; omega) (by show 0 + 10 + 12 + 24 + 24 + 960 + 12 ≤ 1237; omega) dX10_init_48 (fun b6 H n_b6 hM hS => ?_)
  have ne_y_b6 : y ≠ b6 := m_neN g_y n_b6
  have ne_b1_b6 : b1 ≠ b6 := m_neN g_b1 n_b6
  have ne_b2_b6 : b2 ≠ b6 := m_neN g_b2 n_b6
  have ne_b3_b6 : b3 ≠ b6 := m_neN g_b3 n_b6
  have ne_b4_b6 : b4 ≠ b6 := m_neN g_b4 n_b6
  have ne_b5_b6 : b5 ≠ b6 := m_neN g_b5 n_b6
  have k_b6 : M b6 = none := hN b6 n_b6
  have hM : mOK E.1 (mA M sz) (mUp M10 b6 (mI E 12 (fun _ => 0))) H := hM
  obtain ⟨M11, eM11⟩ : ∃ z, z = mUp M10 b6 (mI E 12 (fun _ => 0)) := ⟨_, rfl⟩
  rw [← eM11] at hM
  have g_y : M11 y = some (mO 8 [.ref b1, .ref b2, .ref b3, .ref b4, .ref b5, .int 0, .null, .null, .null, .null, .null, .null, .int 0, .null, .null, .int 0, .int 0, .int 0, .null, .null, .null]) := by rw [eM11]; exact mUp_at (m_neN g_y n_b6) g_y
  have g_b1 : M11 b1 = some (mI E 10 (fun _ => 0)) := by rw [eM11]; exact mUp_at (m_neN g_b1 n_b6) g_b1
  have g_b2 : M11 b2 = some (mI E 12 (fun _ => 0)) := by rw [eM11]; exact mUp_at (m_neN g_b2 n_b6) g_b2
  have g_b3 : M11 b3 = some (mI E 24 (fun _ => 0)) := by rw [eM11]; exact mUp_at (m_neN g_b3 n_b6) g_b3
  have g_b4 : M11 b4 = some (mI E 24 (fun _ => 0)) := by rw [eM11]; exact mUp_at (m_neN g_b4 n_b6) g_b4
  have g_b5 : M11 b5 = some (mJ E 960 (fun _ => 0)) := by rw [eM11]; exact mUp_at (m_neN g_b5 n_b6) g_b5
  have g_b6 : M11 b6 = some (mI E 12 (fun _ => 0)) := by rw [eM11]; exact mUp_self _ _ _
  have hQ : ∀ q, M q ≠ none → q ≠ y → M11 q = M q := fun q hq hqy => (congrFun eM11 q).trans ((mUp_ne (fun z => hq (by rw [z]; exact k_b6))).trans (hQ q hq hqy))
  have hN : ∀ q, M11 q = none → M q = none := fun q hq => hN q (mUp_none (by rw [← eM11]; exact hq)).2
  refine m_putF (ci := 8) (v := .ref b6) (ty := .array .int) (C := RX10) (T := TX10) (N := 21) hx hb hts in_X10_init_X10 tyX10 tyX10_ok nmX10 hown hE hM hS g_y rfl 6 (by decide) (hts (.fieldLink RX10 26 "CallWays2Model" "sorts" "[I") (by decide +kernel)) (fun _ h9 => h9) rfl hnm rfl (by decide +kernel) rfl rfl (Nat.le_of_ble_eq_true rfl) dX10_init_50 (fun H locs hM hS => ?_)
  have hM : mOK E.1 (mA M sz) (mUp M11 y (mO 8 [.ref b1, .ref b2, .ref b3, .ref b4, .ref b5, .int 0, .ref b6, .null, .null, .null, .null, .null, .int 0, .null, .null, .int 0, .int 0, .int 0, .null, .null, .null])) H := hM
  obtain ⟨M12, eM12⟩ : ∃ z, z = mUp M11 y (mO 8 [.ref b1, .ref b2, .ref b3, .ref b4, .ref b5, .int 0, .ref b6, .null, .null, .null, .null, .null, .int 0, .null, .null, .int 0, .int 0, .int 0, .null, .null, .null]) := ⟨_, rfl⟩
  rw [← eM12] at hM
  have g_b1_ : M12 b1 = some (mI E 10 (fun _ => 0)) := by rw [eM12]; exact mUp_at (Ne.symm ne_y_b1) g_b1
  have g_b2_ : M12 b2 = some (mI E 12 (fun _ => 0)) := by rw [eM12]; exact mUp_at (Ne.symm ne_y_b2) g_b2
  have g_b3_ : M12 b3 = some (mI E 24 (fun _ => 0)) := by rw [eM12]; exact mUp_at (Ne.symm ne_y_b3) g_b3
  have g_b4_ : M12 b4 = some (mI E 24 (fun _ => 0)) := by rw [eM12]; exact mUp_at (Ne.symm ne_y_b4) g_b4
  have g_b5_ : M12 b5 = some (mJ E 960 (fun _ => 0)) := by rw [eM12]; exact mUp_at (Ne.symm ne_y_b5) g_b5
  have g_b6_ : M12 b6 = some (mI E 12 (fun _ => 0)) := by rw [eM12]; exact mUp_at (Ne.symm ne_y_b6) g_b6
  have g_b1 := g_b1_
  have g_b2 := g_b2_
  have g_b3 := g_b3_
  have g_b4 := g_b4_
  have g_b5 := g_b5_
  have g_b6 := g_b6_
  have g_y : M12 y = some (mO 8 [.ref b1, .ref b2, .ref b3, .ref b4, .ref b5, .int 0, .ref b6, .null, .null, .null, .null, .null, .int 0, .null, .null, .int 0, .int 0, .int 0, .null, .null, .null]) := by rw [eM12]; exact mUp_self _ _ _
  have hQ : ∀ q, M q ≠ none → q ≠ y → M12 q = M q := fun q hq hqy => (by rw [eM12, mUp_ne hqy]; exact hQ q hq hqy)
  have hN : ∀ q, M12 q = none → M q = none := fun q hq => hN q (mUp_none (by rw [← eM12]; exact hq)).2
  refine lv_aload_n hx hb dX10_init_53 rfl (lv_at hl 0 rfl) ?_
  refine lv_bipush (v := 48) hx hb dX10_init_54 (by decide) ?_
  refine m_newI (N' := 48) hx hb (hts (.arrayClass .int) (by decide +kernel)) hE hM hS hA (by decide) (by decide) (by decide) (by show 0 + 1 + 1 + 1 + 1 + 1 + 1 + 1 ≤ 16; omega) (by show 0 + 10 + 12 + 24 + 24 + 960 + 12 + 48 ≤ 1237; omega) dX10_init_56 (fun b7 H n_b7 hM hS => ?_)
  have ne_y_b7 : y ≠ b7 := m_neN g_y n_b7
  have ne_b1_b7 : b1 ≠ b7 := m_neN g_b1 n_b7
  have ne_b2_b7 : b2 ≠ b7 := m_neN g_b2 n_b7
  have ne_b3_b7 : b3 ≠ b7 := m_neN g_b3 n_b7
  have ne_b4_b7 : b4 ≠ b7 := m_neN g_b4 n_b7
  have ne_b5_b7 : b5 ≠ b7 := m_neN g_b5 n_b7
  have ne_b6_b7 : b6 ≠ b7 := m_neN g_b6 n_b7
  have k_b7 : M b7 = none := hN b7 n_b7
  have hM : mOK E.1 (mA M sz) (mUp M12 b7 (mI E 48 (fun _ => 0))) H := hM
  obtain ⟨M13, eM13⟩ : ∃ z, z = mUp M12 b7 (mI E 48 (fun _ => 0)) := ⟨_, rfl⟩
  rw [← eM13] at hM
  have g_y : M13 y = some (mO 8 [.ref b1, .ref b2, .ref b3, .ref b4, .ref b5, .int 0, .ref b6, .null, .null, .null, .null, .null, .int 0, .null, .null, .int 0, .int 0, .int 0, .null, .null, .null]) := by rw [eM13]; exact mUp_at (m_neN g_y n_b7) g_y
  have g_b1 : M13 b1 = some (mI E 10 (fun _ => 0)) := by rw [eM13]; exact mUp_at (m_neN g_b1 n_b7) g_b1
  have g_b2 : M13 b2 = some (mI E 12 (fun _ => 0)) := by rw [eM13]; exact mUp_at (m_neN g_b2 n_b7) g_b2
  have g_b3 : M13 b3 = some (mI E 24 (fun _ => 0)) := by rw [eM13]; exact mUp_at (m_neN g_b3 n_b7) g_b3
  have g_b4 : M13 b4 = some (mI E 24 (fun _ => 0)) := by rw [eM13]; exact mUp_at (m_neN g_b4 n_b7) g_b4
  have g_b5 : M13 b5 = some (mJ E 960 (fun _ => 0)) := by rw [eM13]; exact mUp_at (m_neN g_b5 n_b7) g_b5
  have g_b6 : M13 b6 = some (mI E 12 (fun _ => 0)) := by rw [eM13]; exact mUp_at (m_neN g_b6 n_b7) g_b6
  have g_b7 : M13 b7 = some (mI E 48 (fun _ => 0)) := by rw [eM13]; exact mUp_self _ _ _
  have hQ : ∀ q, M q ≠ none → q ≠ y → M13 q = M q := fun q hq hqy => (congrFun eM13 q).trans ((mUp_ne (fun z => hq (by rw [z]; exact k_b7))).trans (hQ q hq hqy))
  have hN : ∀ q, M13 q = none → M q = none := fun q hq => hN q (mUp_none (by rw [← eM13]; exact hq)).2
  refine m_putF (ci := 8) (v := .ref b7) (ty := .array .int) (C := RX10) (T := TX10) (N := 21) hx hb hts in_X10_init_X10 tyX10 tyX10_ok nmX10 hown hE hM hS g_y rfl 7 (by decide) (hts (.fieldLink RX10 29 "CallWays2Model" "knobs" "[I") (by decide +kernel)) (fun _ h9 => h9) rfl hnm rfl (by decide +kernel) rfl rfl (Nat.le_of_ble_eq_true rfl) dX10_init_58 (fun H locs hM hS => ?_)
  have hM : mOK E.1 (mA M sz) (mUp M13 y (mO 8 [.ref b1, .ref b2, .ref b3, .ref b4, .ref b5, .int 0, .ref b6, .ref b7, .null, .null, .null, .null, .int 0, .null, .null, .int 0, .int 0, .int 0, .null, .null, .null])) H := hM
  obtain ⟨M14, eM14⟩ : ∃ z, z = mUp M13 y (mO 8 [.ref b1, .ref b2, .ref b3, .ref b4, .ref b5, .int 0, .ref b6, .ref b7, .null, .null, .null, .null, .int 0, .null, .null, .int 0, .int 0, .int 0, .null, .null, .null]) := ⟨_, rfl⟩
  rw [← eM14] at hM
  have g_b1_ : M14 b1 = some (mI E 10 (fun _ => 0)) := by rw [eM14]; exact mUp_at (Ne.symm ne_y_b1) g_b1
  have g_b2_ : M14 b2 = some (mI E 12 (fun _ => 0)) := by rw [eM14]; exact mUp_at (Ne.symm ne_y_b2) g_b2
  have g_b3_ : M14 b3 = some (mI E 24 (fun _ => 0)) := by rw [eM14]; exact mUp_at (Ne.symm ne_y_b3) g_b3
  have g_b4_ : M14 b4 = some (mI E 24 (fun _ => 0)) := by rw [eM14]; exact mUp_at (Ne.symm ne_y_b4) g_b4
  have g_b5_ : M14 b5 = some (mJ E 960 (fun _ => 0)) := by rw [eM14]; exact mUp_at (Ne.symm ne_y_b5) g_b5
  have g_b6_ : M14 b6 = some (mI E 12 (fun _ => 0)) := by rw [eM14]; exact mUp_at (Ne.symm ne_y_b6) g_b6
  have g_b7_ : M14 b7 = some (mI E 48 (fun _ => 0)) := by rw [eM14]; exact mUp_at (Ne.symm ne_y_b7) g_b7
  have g_b1 := g_b1_
  have g_b2 := g_b2_
  have g_b3 := g_b3_
  have g_b4 := g_b4_
  have g_b5 := g_b5_
  have g_b6 := g_b6_
  have g_b7 := g_b7_
  have g_y : M14 y = some (mO 8 [.ref b1, .ref b2, .ref b3, .ref b4, .ref b5, .int 0, .ref b6, .ref b7, .null, .null, .null, .null, .int 0, .null, .null, .int 0, .int 0, .int 0, .null, .null, .null]) := by rw [eM14]; exact mUp_self _ _ _
  have hQ : ∀ q, M q ≠ none → q ≠ y → M14 q = M q := fun q hq hqy => (by rw [eM14, mUp_ne hqy]; exact hQ q hq hqy)
  have hN : ∀ q, M14 q = none → M q = none := fun q hq => hN q (mUp_none (by rw [← eM14]; exact hq)).2
  refine lv_aload_n hx hb dX10_init_61 rfl (lv_at hl 0 rfl) ?_
  refine lv_bipush (v := 12) hx hb dX10_init_62 (by decide) ?_
  refine m_newI (N' := 12) hx hb (hts (.arrayClass .int) (by decide +kernel)) hE hM hS hA (by decide) (by decide) (by decide) (by show 0 + 1 + 1 + 1 + 1 + 1 + 1 + 1 + 1 ≤ 16; omega) (by show 0 + 10 + 12 + 24 + 24 + 960 + 12 + 48 + 12 ≤ 1237; omega) dX10_init_64 (fun b8 H n_b8 hM hS => ?_)
  have ne_y_b8 : y ≠ b8 := m_neN g_y n_b8
  have ne_b1_b8 : b1 ≠ b8 := m_neN g_b1 n_b8
  have ne_b2_b8 : b2 ≠ b8 := m_neN g_b2 n_b8
  have ne_b3_b8 : b3 ≠ b8 := m_neN g_b3 n_b8
  have ne_b4_b8 : b4 ≠ b8 := m_neN g_b4 n_b8
  have ne_b5_b8 : b5 ≠ b8 := m_neN g_b5 n_b8
  have ne_b6_b8 : b6 ≠ b8 := m_neN g_b6 n_b8
  have ne_b7_b8 : b7 ≠ b8 := m_neN g_b7 n_b8
  have k_b8 : M b8 = none := hN b8 n_b8
  have hM : mOK E.1 (mA M sz) (mUp M14 b8 (mI E 12 (fun _ => 0))) H := hM
  obtain ⟨M15, eM15⟩ : ∃ z, z = mUp M14 b8 (mI E 12 (fun _ => 0)) := ⟨_, rfl⟩
  rw [← eM15] at hM
  have g_y : M15 y = some (mO 8 [.ref b1, .ref b2, .ref b3, .ref b4, .ref b5, .int 0, .ref b6, .ref b7, .null, .null, .null, .null, .int 0, .null, .null, .int 0, .int 0, .int 0, .null, .null, .null]) := by rw [eM15]; exact mUp_at (m_neN g_y n_b8) g_y
  have g_b1 : M15 b1 = some (mI E 10 (fun _ => 0)) := by rw [eM15]; exact mUp_at (m_neN g_b1 n_b8) g_b1
  have g_b2 : M15 b2 = some (mI E 12 (fun _ => 0)) := by rw [eM15]; exact mUp_at (m_neN g_b2 n_b8) g_b2
  have g_b3 : M15 b3 = some (mI E 24 (fun _ => 0)) := by rw [eM15]; exact mUp_at (m_neN g_b3 n_b8) g_b3
  have g_b4 : M15 b4 = some (mI E 24 (fun _ => 0)) := by rw [eM15]; exact mUp_at (m_neN g_b4 n_b8) g_b4
  have g_b5 : M15 b5 = some (mJ E 960 (fun _ => 0)) := by rw [eM15]; exact mUp_at (m_neN g_b5 n_b8) g_b5
  have g_b6 : M15 b6 = some (mI E 12 (fun _ => 0)) := by rw [eM15]; exact mUp_at (m_neN g_b6 n_b8) g_b6
  have g_b7 : M15 b7 = some (mI E 48 (fun _ => 0)) := by rw [eM15]; exact mUp_at (m_neN g_b7 n_b8) g_b7
  have g_b8 : M15 b8 = some (mI E 12 (fun _ => 0)) := by rw [eM15]; exact mUp_self _ _ _
  have hQ : ∀ q, M q ≠ none → q ≠ y → M15 q = M q := fun q hq hqy => (congrFun eM15 q).trans ((mUp_ne (fun z => hq (by rw [z]; exact k_b8))).trans (hQ q hq hqy))
  have hN : ∀ q, M15 q = none → M q = none := fun q hq => hN q (mUp_none (by rw [← eM15]; exact hq)).2
  refine m_putF (ci := 8) (v := .ref b8) (ty := .array .int) (C := RX10) (T := TX10) (N := 21) hx hb hts in_X10_init_X10 tyX10 tyX10_ok nmX10 hown hE hM hS g_y rfl 8 (by decide) (hts (.fieldLink RX10 32 "CallWays2Model" "pitches" "[I") (by decide +kernel)) (fun _ h9 => h9) rfl hnm rfl (by decide +kernel) rfl rfl (Nat.le_of_ble_eq_true rfl) dX10_init_66 (fun H locs hM hS => ?_)
  have hM : mOK E.1 (mA M sz) (mUp M15 y (mO 8 [.ref b1, .ref b2, .ref b3, .ref b4, .ref b5, .int 0, .ref b6, .ref b7, .ref b8, .null, .null, .null, .int 0, .null, .null, .int 0, .int 0, .int 0, .null, .null, .null])) H := hM
  obtain ⟨M16, eM16⟩ : ∃ z, z = mUp M15 y (mO 8 [.ref b1, .ref b2, .ref b3, .ref b4, .ref b5, .int 0, .ref b6, .ref b7, .ref b8, .null, .null, .null, .int 0, .null, .null, .int 0, .int 0, .int 0, .null, .null, .null]) := ⟨_, rfl⟩
  rw [← eM16] at hM
  have g_b1_ : M16 b1 = some (mI E 10 (fun _ => 0)) := by rw [eM16]; exact mUp_at (Ne.symm ne_y_b1) g_b1
  have g_b2_ : M16 b2 = some (mI E 12 (fun _ => 0)) := by rw [eM16]; exact mUp_at (Ne.symm ne_y_b2) g_b2
  have g_b3_ : M16 b3 = some (mI E 24 (fun _ => 0)) := by rw [eM16]; exact mUp_at (Ne.symm ne_y_b3) g_b3
  have g_b4_ : M16 b4 = some (mI E 24 (fun _ => 0)) := by rw [eM16]; exact mUp_at (Ne.symm ne_y_b4) g_b4
  have g_b5_ : M16 b5 = some (mJ E 960 (fun _ => 0)) := by rw [eM16]; exact mUp_at (Ne.symm ne_y_b5) g_b5
  have g_b6_ : M16 b6 = some (mI E 12 (fun _ => 0)) := by rw [eM16]; exact mUp_at (Ne.symm ne_y_b6) g_b6
  have g_b7_ : M16 b7 = some (mI E 48 (fun _ => 0)) := by rw [eM16]; exact mUp_at (Ne.symm ne_y_b7) g_b7
  have g_b8_ : M16 b8 = some (mI E 12 (fun _ => 0)) := by rw [eM16]; exact mUp_at (Ne.symm ne_y_b8) g_b8
  have g_b1 := g_b1_
  have g_b2 := g_b2_
  have g_b3 := g_b3_
  have g_b4 := g_b4_
  have g_b5 := g_b5_
  have g_b6 := g_b6_
  have g_b7 := g_b7_
  have g_b8 := g_b8_
  have g_y : M16 y = some (mO 8 [.ref b1, .ref b2, .ref b3, .ref b4, .ref b5, .int 0, .ref b6, .ref b7, .ref b8, .null, .null, .null, .int 0, .null, .null, .int 0, .int 0, .int 0, .null, .null, .null]) := by rw [eM16]; exact mUp_self _ _ _
  have hQ : ∀ q, M q ≠ none → q ≠ y → M16 q = M q := fun q hq hqy => (by rw [eM16, mUp_ne hqy]; exact hQ q hq hqy)
  have hN : ∀ q, M16 q = none → M q = none := fun q hq => hN q (mUp_none (by rw [← eM16]; exact hq)).2
  refine lv_aload_n hx hb dX10_init_69 rfl (lv_at hl 0 rfl) ?_
  refine lv_bipush (v := 12) hx hb dX10_init_70 (by decide) ?_
  refine m_newZ (N' := 12) hx hb (hts (.arrayClass .boolean) (by decide +kernel)) hE hM hS hA (by decide) (by decide) (by decide) (by show 0 + 1 + 1 + 1 + 1 + 1 + 1 + 1 + 1 + 1 ≤ 16; omega) (by show 0 + 10 + 12 + 24 + 24 + 960 + 12 + 48 + 12 + 12 ≤ 1237; omega) dX10_init_72 (fun b9 H n_b9 hM hS => ?_)
  have ne_y_b9 : y ≠ b9 := m_neN g_y n_b9
  have ne_b1_b9 : b1 ≠ b9 := m_neN g_b1 n_b9
  have ne_b2_b9 : b2 ≠ b9 := m_neN g_b2 n_b9
  have ne_b3_b9 : b3 ≠ b9 := m_neN g_b3 n_b9
  have ne_b4_b9 : b4 ≠ b9 := m_neN g_b4 n_b9
  have ne_b5_b9 : b5 ≠ b9 := m_neN g_b5 n_b9
  have ne_b6_b9 : b6 ≠ b9 := m_neN g_b6 n_b9
  have ne_b7_b9 : b7 ≠ b9 := m_neN g_b7 n_b9
  have ne_b8_b9 : b8 ≠ b9 := m_neN g_b8 n_b9
  have k_b9 : M b9 = none := hN b9 n_b9
  have hM : mOK E.1 (mA M sz) (mUp M16 b9 (mZ E 12 (fun _ => 0))) H := hM
  obtain ⟨M17, eM17⟩ : ∃ z, z = mUp M16 b9 (mZ E 12 (fun _ => 0)) := ⟨_, rfl⟩
  rw [← eM17] at hM
  have g_y : M17 y = some (mO 8 [.ref b1, .ref b2, .ref b3, .ref b4, .ref b5, .int 0, .ref b6, .ref b7, .ref b8, .null, .null, .null, .int 0, .null, .null, .int 0, .int 0, .int 0, .null, .null, .null]) := by rw [eM17]; exact mUp_at (m_neN g_y n_b9) g_y
  have g_b1 : M17 b1 = some (mI E 10 (fun _ => 0)) := by rw [eM17]; exact mUp_at (m_neN g_b1 n_b9) g_b1
  have g_b2 : M17 b2 = some (mI E 12 (fun _ => 0)) := by rw [eM17]; exact mUp_at (m_neN g_b2 n_b9) g_b2
  have g_b3 : M17 b3 = some (mI E 24 (fun _ => 0)) := by rw [eM17]; exact mUp_at (m_neN g_b3 n_b9) g_b3
  have g_b4 : M17 b4 = some (mI E 24 (fun _ => 0)) := by rw [eM17]; exact mUp_at (m_neN g_b4 n_b9) g_b4
  have g_b5 : M17 b5 = some (mJ E 960 (fun _ => 0)) := by rw [eM17]; exact mUp_at (m_neN g_b5 n_b9) g_b5
  have g_b6 : M17 b6 = some (mI E 12 (fun _ => 0)) := by rw [eM17]; exact mUp_at (m_neN g_b6 n_b9) g_b6
  have g_b7 : M17 b7 = some (mI E 48 (fun _ => 0)) := by rw [eM17]; exact mUp_at (m_neN g_b7 n_b9) g_b7
  have g_b8 : M17 b8 = some (mI E 12 (fun _ => 0)) := by rw [eM17]; exact mUp_at (m_neN g_b8 n_b9) g_b8
  have g_b9 : M17 b9 = some (mZ E 12 (fun _ => 0)) := by rw [eM17]; exact mUp_self _ _ _
  have hQ : ∀ q, M q ≠ none → q ≠ y → M17 q = M q := fun q hq hqy => (congrFun eM17 q).trans ((mUp_ne (fun z => hq (by rw [z]; exact k_b9))).trans (hQ q hq hqy))
  have hN : ∀ q, M17 q = none → M q = none := fun q hq => hN q (mUp_none (by rw [← eM17]; exact hq)).2
  refine m_putF (ci := 8) (v := .ref b9) (ty := .array .boolean) (C := RX10) (T := TX10) (N := 21) hx hb hts in_X10_init_X10 tyX10 tyX10_ok nmX10 hown hE hM hS g_y rfl 9 (by decide) (hts (.fieldLink RX10 35 "CallWays2Model" "isOn" "[Z") (by decide +kernel)) (fun _ h9 => h9) rfl hnm rfl (by decide +kernel) rfl rfl (Nat.le_of_ble_eq_true rfl) dX10_init_74 (fun H locs hM hS => ?_)
  have hM : mOK E.1 (mA M sz) (mUp M17 y (mO 8 [.ref b1, .ref b2, .ref b3, .ref b4, .ref b5, .int 0, .ref b6, .ref b7, .ref b8, .ref b9, .null, .null, .int 0, .null, .null, .int 0, .int 0, .int 0, .null, .null, .null])) H := hM
  obtain ⟨M18, eM18⟩ : ∃ z, z = mUp M17 y (mO 8 [.ref b1, .ref b2, .ref b3, .ref b4, .ref b5, .int 0, .ref b6, .ref b7, .ref b8, .ref b9, .null, .null, .int 0, .null, .null, .int 0, .int 0, .int 0, .null, .null, .null]) := ⟨_, rfl⟩
  rw [← eM18] at hM
  have g_b1_ : M18 b1 = some (mI E 10 (fun _ => 0)) := by rw [eM18]; exact mUp_at (Ne.symm ne_y_b1) g_b1
  have g_b2_ : M18 b2 = some (mI E 12 (fun _ => 0)) := by rw [eM18]; exact mUp_at (Ne.symm ne_y_b2) g_b2
  have g_b3_ : M18 b3 = some (mI E 24 (fun _ => 0)) := by rw [eM18]; exact mUp_at (Ne.symm ne_y_b3) g_b3
  have g_b4_ : M18 b4 = some (mI E 24 (fun _ => 0)) := by rw [eM18]; exact mUp_at (Ne.symm ne_y_b4) g_b4
  have g_b5_ : M18 b5 = some (mJ E 960 (fun _ => 0)) := by rw [eM18]; exact mUp_at (Ne.symm ne_y_b5) g_b5
  have g_b6_ : M18 b6 = some (mI E 12 (fun _ => 0)) := by rw [eM18]; exact mUp_at (Ne.symm ne_y_b6) g_b6
  have g_b7_ : M18 b7 = some (mI E 48 (fun _ => 0)) := by rw [eM18]; exact mUp_at (Ne.symm ne_y_b7) g_b7
  have g_b8_ : M18 b8 = some (mI E 12 (fun _ => 0)) := by rw [eM18]; exact mUp_at (Ne.symm ne_y_b8) g_b8
  have g_b9_ : M18 b9 = some (mZ E 12 (fun _ => 0)) := by rw [eM18]; exact mUp_at (Ne.symm ne_y_b9) g_b9
  have g_b1 := g_b1_
  have g_b2 := g_b2_
  have g_b3 := g_b3_
  have g_b4 := g_b4_
  have g_b5 := g_b5_
  have g_b6 := g_b6_
  have g_b7 := g_b7_
  have g_b8 := g_b8_
  have g_b9 := g_b9_
  have g_y : M18 y = some (mO 8 [.ref b1, .ref b2, .ref b3, .ref b4, .ref b5, .int 0, .ref b6, .ref b7, .ref b8, .ref b9, .null, .null, .int 0, .null, .null, .int 0, .int 0, .int 0, .null, .null, .null]) := by rw [eM18]; exact mUp_self _ _ _
  have hQ : ∀ q, M q ≠ none → q ≠ y → M18 q = M q := fun q hq hqy => (by rw [eM18, mUp_ne hqy]; exact hQ q hq hqy)
  have hN : ∀ q, M18 q = none → M q = none := fun q hq => hN q (mUp_none (by rw [← eM18]; exact hq)).2
  refine lv_aload_n hx hb dX10_init_77 rfl (lv_at hl 0 rfl) ?_
  refine lv_bipush (v := 12) hx hb dX10_init_78 (by decide) ?_
  refine m_newI (N' := 12) hx hb (hts (.arrayClass .int) (by decide +kernel)) hE hM hS hA (by decide) (by decide) (by decide) (by show 0 + 1 + 1 + 1 + 1 + 1 + 1 + 1 + 1 + 1 + 1 ≤ 16; omega) (by show 0 + 10 + 12 + 24 + 24 + 960 + 12 + 48 + 12 + 12 + 12 ≤ 1237; omega) dX10_init_80 (fun b10 H n_b10 hM hS => ?_)
  have ne_y_b10 : y ≠ b10 := m_neN g_y n_b10
  have ne_b1_b10 : b1 ≠ b10 := m_neN g_b1 n_b10
  have ne_b2_b10 : b2 ≠ b10 := m_neN g_b2 n_b10
  have ne_b3_b10 : b3 ≠ b10 := m_neN g_b3 n_b10
  have ne_b4_b10 : b4 ≠ b10 := m_neN g_b4 n_b10
  have ne_b5_b10 : b5 ≠ b10 := m_neN g_b5 n_b10
  have ne_b6_b10 : b6 ≠ b10 := m_neN g_b6 n_b10
  have ne_b7_b10 : b7 ≠ b10 := m_neN g_b7 n_b10
  have ne_b8_b10 : b8 ≠ b10 := m_neN g_b8 n_b10
  have ne_b9_b10 : b9 ≠ b10 := m_neN g_b9 n_b10
  have k_b10 : M b10 = none := hN b10 n_b10
  have hM : mOK E.1 (mA M sz) (mUp M18 b10 (mI E 12 (fun _ => 0))) H := hM
  obtain ⟨M19, eM19⟩ : ∃ z, z = mUp M18 b10 (mI E 12 (fun _ => 0)) := ⟨_, rfl⟩
  rw [← eM19] at hM
  have g_y : M19 y = some (mO 8 [.ref b1, .ref b2, .ref b3, .ref b4, .ref b5, .int 0, .ref b6, .ref b7, .ref b8, .ref b9, .null, .null, .int 0, .null, .null, .int 0, .int 0, .int 0, .null, .null, .null]) := by rw [eM19]; exact mUp_at (m_neN g_y n_b10) g_y
  have g_b1 : M19 b1 = some (mI E 10 (fun _ => 0)) := by rw [eM19]; exact mUp_at (m_neN g_b1 n_b10) g_b1
  have g_b2 : M19 b2 = some (mI E 12 (fun _ => 0)) := by rw [eM19]; exact mUp_at (m_neN g_b2 n_b10) g_b2
  have g_b3 : M19 b3 = some (mI E 24 (fun _ => 0)) := by rw [eM19]; exact mUp_at (m_neN g_b3 n_b10) g_b3
  have g_b4 : M19 b4 = some (mI E 24 (fun _ => 0)) := by rw [eM19]; exact mUp_at (m_neN g_b4 n_b10) g_b4
  have g_b5 : M19 b5 = some (mJ E 960 (fun _ => 0)) := by rw [eM19]; exact mUp_at (m_neN g_b5 n_b10) g_b5
  have g_b6 : M19 b6 = some (mI E 12 (fun _ => 0)) := by rw [eM19]; exact mUp_at (m_neN g_b6 n_b10) g_b6
  have g_b7 : M19 b7 = some (mI E 48 (fun _ => 0)) := by rw [eM19]; exact mUp_at (m_neN g_b7 n_b10) g_b7
  have g_b8 : M19 b8 = some (mI E 12 (fun _ => 0)) := by rw [eM19]; exact mUp_at (m_neN g_b8 n_b10) g_b8
  have g_b9 : M19 b9 = some (mZ E 12 (fun _ => 0)) := by rw [eM19]; exact mUp_at (m_neN g_b9 n_b10) g_b9
  have g_b10 : M19 b10 = some (mI E 12 (fun _ => 0)) := by rw [eM19]; exact mUp_self _ _ _
  have hQ : ∀ q, M q ≠ none → q ≠ y → M19 q = M q := fun q hq hqy => (congrFun eM19 q).trans ((mUp_ne (fun z => hq (by rw [z]; exact k_b10))).trans (hQ q hq hqy))
  have hN : ∀ q, M19 q = none → M q = none := fun q hq => hN q (mUp_none (by rw [← eM19]; exact hq)).2
  refine m_putF (ci := 8) (v := .ref b10) (ty := .array .int) (C := RX10) (T := TX10) (N := 21) hx hb hts in_X10_init_X10 tyX10 tyX10_ok nmX10 hown hE hM hS g_y rfl 10 (by decide) (hts (.fieldLink RX10 39 "CallWays2Model" "phases" "[I") (by decide +kernel)) (fun _ h9 => h9) rfl hnm rfl (by decide +kernel) rfl rfl (Nat.le_of_ble_eq_true rfl) dX10_init_82 (fun H locs hM hS => ?_)
  have hM : mOK E.1 (mA M sz) (mUp M19 y (mO 8 [.ref b1, .ref b2, .ref b3, .ref b4, .ref b5, .int 0, .ref b6, .ref b7, .ref b8, .ref b9, .ref b10, .null, .int 0, .null, .null, .int 0, .int 0, .int 0, .null, .null, .null])) H := hM
  obtain ⟨M20, eM20⟩ : ∃ z, z = mUp M19 y (mO 8 [.ref b1, .ref b2, .ref b3, .ref b4, .ref b5, .int 0, .ref b6, .ref b7, .ref b8, .ref b9, .ref b10, .null, .int 0, .null, .null, .int 0, .int 0, .int 0, .null, .null, .null]) := ⟨_, rfl⟩
  rw [← eM20] at hM
  have g_b1_ : M20 b1 = some (mI E 10 (fun _ => 0)) := by rw [eM20]; exact mUp_at (Ne.symm ne_y_b1) g_b1
  have g_b2_ : M20 b2 = some (mI E 12 (fun _ => 0)) := by rw [eM20]; exact mUp_at (Ne.symm ne_y_b2) g_b2
  have g_b3_ : M20 b3 = some (mI E 24 (fun _ => 0)) := by rw [eM20]; exact mUp_at (Ne.symm ne_y_b3) g_b3
  have g_b4_ : M20 b4 = some (mI E 24 (fun _ => 0)) := by rw [eM20]; exact mUp_at (Ne.symm ne_y_b4) g_b4
  have g_b5_ : M20 b5 = some (mJ E 960 (fun _ => 0)) := by rw [eM20]; exact mUp_at (Ne.symm ne_y_b5) g_b5
  have g_b6_ : M20 b6 = some (mI E 12 (fun _ => 0)) := by rw [eM20]; exact mUp_at (Ne.symm ne_y_b6) g_b6
  have g_b7_ : M20 b7 = some (mI E 48 (fun _ => 0)) := by rw [eM20]; exact mUp_at (Ne.symm ne_y_b7) g_b7
  have g_b8_ : M20 b8 = some (mI E 12 (fun _ => 0)) := by rw [eM20]; exact mUp_at (Ne.symm ne_y_b8) g_b8
  have g_b9_ : M20 b9 = some (mZ E 12 (fun _ => 0)) := by rw [eM20]; exact mUp_at (Ne.symm ne_y_b9) g_b9
  have g_b10_ : M20 b10 = some (mI E 12 (fun _ => 0)) := by rw [eM20]; exact mUp_at (Ne.symm ne_y_b10) g_b10
  have g_b1 := g_b1_
  have g_b2 := g_b2_
  have g_b3 := g_b3_
  have g_b4 := g_b4_
  have g_b5 := g_b5_
  have g_b6 := g_b6_
  have g_b7 := g_b7_
  have g_b8 := g_b8_
  have g_b9 := g_b9_
  have g_b10 := g_b10_
  have g_y : M20 y = some (mO 8 [.ref b1, .ref b2, .ref b3, .ref b4, .ref b5, .int 0, .ref b6, .ref b7, .ref b8, .ref b9, .ref b10, .null, .int 0, .null, .null, .int 0, .int 0, .int 0, .null, .null, .null]) := by rw [eM20]; exact mUp_self _ _ _
  have hQ : ∀ q, M q ≠ none → q ≠ y → M20 q = M q := fun q hq hqy => (by rw [eM20, mUp_ne hqy]; exact hQ q hq hqy)
  have hN : ∀ q, M20 q = none → M q = none := fun q hq => hN q (mUp_none (by rw [← eM20]; exact hq)).2
  refine lv_aload_n hx hb dX10_init_85 rfl (lv_at hl 0 rfl) ?_
  refine lv_bipush (v := 12) hx hb dX10_init_86 (by decide) ?_
  refine m_newD (N' := 12) hx hb (hts (.arrayClass .double) (by decide +kernel)) hE hM hS hA (by decide) (by decide) (by decide) (by show 0 + 1 + 1 + 1 + 1 + 1 + 1 + 1 + 1 + 1 + 1 + 1 ≤ 16; omega) (by show 0 + 10 + 12 + 24 + 24 + 960 + 12 + 48 + 12 + 12 + 12 + 12 ≤ 1237; omega) dX10_init_88 (fun b11 H n_b11 hM hS => ?_)
  have ne_y_b11 : y ≠ b11 := m_neN g_y n_b11
  have ne_b1_b11 : b1 ≠ b11 := m_neN g_b1 n_b11
  have ne_b2_b11 : b2 ≠ b11 := m_neN g_b2 n_b11
  have ne_b3_b11 : b3 ≠ b11 := m_neN g_b3 n_b11
  have ne_b4_b11 : b4 ≠ b11 := m_neN g_b4 n_b11
  have ne_b5_b11 : b5 ≠ b11 := m_neN g_b5 n_b11
  have ne_b6_b11 : b6 ≠ b11 := m_neN g_b6 n_b11
  have ne_b7_b11 : b7 ≠ b11 := m_neN g_b7 n_b11
  have ne_b8_b11 : b8 ≠ b11 := m_neN g_b8 n_b11
  have ne_b9_b11 : b9 ≠ b11 := m_neN g_b9 n_b11
  have ne_b10_b11 : b10 ≠ b11 := m_neN g_b10 n_b11
  have k_b11 : M b11 = none := hN b11 n_b11
  have hM : mOK E.1 (mA M sz) (mUp M20 b11 (mDb E 12 (fun _ => 0))) H := hM
  obtain ⟨M21, eM21⟩ : ∃ z, z = mUp M20 b11 (mDb E 12 (fun _ => 0)) := ⟨_, rfl⟩
  rw [← eM21] at hM
  have g_y : M21 y = some (mO 8 [.ref b1, .ref b2, .ref b3, .ref b4, .ref b5, .int 0, .ref b6, .ref b7, .ref b8, .ref b9, .ref b10, .null, .int 0, .null, .null, .int 0, .int 0, .int 0, .null, .null, .null]) := by rw [eM21]; exact mUp_at (m_neN g_y n_b11) g_y
  have g_b1 : M21 b1 = some (mI E 10 (fun _ => 0)) := by rw [eM21]; exact mUp_at (m_neN g_b1 n_b11) g_b1
  have g_b2 : M21 b2 = some (mI E 12 (fun _ => 0)) := by rw [eM21]; exact mUp_at (m_neN g_b2 n_b11) g_b2
  have g_b3 : M21 b3 = some (mI E 24 (fun _ => 0)) := by rw [eM21]; exact mUp_at (m_neN g_b3 n_b11) g_b3
  have g_b4 : M21 b4 = some (mI E 24 (fun _ => 0)) := by rw [eM21]; exact mUp_at (m_neN g_b4 n_b11) g_b4
  have g_b5 : M21 b5 = some (mJ E 960 (fun _ => 0)) := by rw [eM21]; exact mUp_at (m_neN g_b5 n_b11) g_b5
  have g_b6 : M21 b6 = some (mI E 12 (fun _ => 0)) := by rw [eM21]; exact mUp_at (m_neN g_b6 n_b11) g_b6
  have g_b7 : M21 b7 = some (mI E 48 (fun _ => 0)) := by rw [eM21]; exact mUp_at (m_neN g_b7 n_b11) g_b7
  have g_b8 : M21 b8 = some (mI E 12 (fun _ => 0)) := by rw [eM21]; exact mUp_at (m_neN g_b8 n_b11) g_b8
  have g_b9 : M21 b9 = some (mZ E 12 (fun _ => 0)) := by rw [eM21]; exact mUp_at (m_neN g_b9 n_b11) g_b9
  have g_b10 : M21 b10 = some (mI E 12 (fun _ => 0)) := by rw [eM21]; exact mUp_at (m_neN g_b10 n_b11) g_b10
  have g_b11 : M21 b11 = some (mDb E 12 (fun _ => 0)) := by rw [eM21]; exact mUp_self _ _ _
  have hQ : ∀ q, M q ≠ none → q ≠ y → M21 q = M q := fun q hq hqy => (congrFun eM21 q).trans ((mUp_ne (fun z => hq (by rw [z]; exact k_b11))).trans (hQ q hq hqy))
  have hN : ∀ q, M21 q = none → M q = none := fun q hq => hN q (mUp_none (by rw [← eM21]; exact hq)).2
  refine m_putF (ci := 8) (v := .ref b11) (ty := .array .double) (C := RX10) (T := TX10) (N := 21) hx hb hts in_X10_init_X10 tyX10 tyX10_ok nmX10 hown hE hM hS g_y rfl 11 (by decide) (hts (.fieldLink RX10 42 "CallWays2Model" "levels" "[D") (by decide +kernel)) (fun _ h9 => h9) rfl hnm rfl (by decide +kernel) rfl rfl (Nat.le_of_ble_eq_true rfl) dX10_init_90 (fun H locs hM hS => ?_)
  have hM : mOK E.1 (mA M sz) (mUp M21 y (mO 8 [.ref b1, .ref b2, .ref b3, .ref b4, .ref b5, .int 0, .ref b6, .ref b7, .ref b8, .ref b9, .ref b10, .ref b11, .int 0, .null, .null, .int 0, .int 0, .int 0, .null, .null, .null])) H := hM
  obtain ⟨M22, eM22⟩ : ∃ z, z = mUp M21 y (mO 8 [.ref b1, .ref b2, .ref b3, .ref b4, .ref b5, .int 0, .ref b6, .ref b7, .ref b8, .ref b9, .ref b10, .ref b11, .int 0, .null, .null, .int 0, .int 0, .int 0, .null, .null, .null]) := ⟨_, rfl⟩
  rw [← eM22] at hM
  have g_b1_ : M22 b1 = some (mI E 10 (fun _ => 0)) := by rw [eM22]; exact mUp_at (Ne.symm ne_y_b1) g_b1
  have g_b2_ : M22 b2 = some (mI E 12 (fun _ => 0)) := by rw [eM22]; exact mUp_at (Ne.symm ne_y_b2) g_b2
  have g_b3_ : M22 b3 = some (mI E 24 (fun _ => 0)) := by rw [eM22]; exact mUp_at (Ne.symm ne_y_b3) g_b3
  have g_b4_ : M22 b4 = some (mI E 24 (fun _ => 0)) := by rw [eM22]; exact mUp_at (Ne.symm ne_y_b4) g_b4
  have g_b5_ : M22 b5 = some (mJ E 960 (fun _ => 0)) := by rw [eM22]; exact mUp_at (Ne.symm ne_y_b5) g_b5
  have g_b6_ : M22 b6 = some (mI E 12 (fun _ => 0)) := by rw [eM22]; exact mUp_at (Ne.symm ne_y_b6) g_b6
  have g_b7_ : M22 b7 = some (mI E 48 (fun _ => 0)) := by rw [eM22]; exact mUp_at (Ne.symm ne_y_b7) g_b7
  have g_b8_ : M22 b8 = some (mI E 12 (fun _ => 0)) := by rw [eM22]; exact mUp_at (Ne.symm ne_y_b8) g_b8
  have g_b9_ : M22 b9 = some (mZ E 12 (fun _ => 0)) := by rw [eM22]; exact mUp_at (Ne.symm ne_y_b9) g_b9
  have g_b10_ : M22 b10 = some (mI E 12 (fun _ => 0)) := by rw [eM22]; exact mUp_at (Ne.symm ne_y_b10) g_b10
  have g_b11_ : M22 b11 = some (mDb E 12 (fun _ => 0)) := by rw [eM22]; exact mUp_at (Ne.symm ne_y_b11) g_b11
  have g_b1 := g_b1_
  have g_b2 := g_b2_
  have g_b3 := g_b3_
  have g_b4 := g_b4_
  have g_b5 := g_b5_
  have g_b6 := g_b6_
  have g_b7 := g_b7_
  have g_b8 := g_b8_
  have g_b9 := g_b9_
  have g_b10 := g_b10_
  have g_b11 := g_b11_
  have g_y : M22 y = some (mO 8 [.ref b1, .ref b2, .ref b3, .ref b4, .ref b5, .int 0, .ref b6, .ref b7, .ref b8, .ref b9, .ref b10, .ref b11, .int 0, .null, .null, .int 0, .int 0, .int 0, .null, .null, .null]) := by rw [eM22]; exact mUp_self _ _ _
  have hQ : ∀ q, M q ≠ none → q ≠ y → M22 q = M q := fun q hq hqy => (by rw [eM22, mUp_ne hqy]; exact hQ q hq hqy)
  have hN : ∀ q, M22 q = none → M q = none := fun q hq => hN q (mUp_none (by rw [← eM22]; exact hq)).2
  refine lv_aload_n hx hb dX10_init_93 rfl (lv_at hl 0 rfl) ?_
  refine lv_bipush (v := 8) hx hb dX10_init_94 (by decide) ?_
  refine m_newI (N' := 8) hx hb (hts (.arrayClass .int) (by decide +kernel)) hE hM hS hA (by decide) (by decide) (by decide) (by show 0 + 1 + 1 + 1 + 1 + 1 + 1 + 1 + 1 + 1 + 1 + 1 + 1 ≤ 16; omega) (by show 0 + 10 + 12 + 24 + 24 + 960 + 12 + 48 + 12 + 12 + 12 + 12 + 8 ≤ 1237; omega) dX10_init_96 (fun b12 H n_b12 hM hS => ?_)
  have ne_y_b12 : y ≠ b12 := m_neN g_y n_b12
  have ne_b1_b12 : b1 ≠ b12 := m_neN g_b1 n_b12
  have ne_b2_b12 : b2 ≠ b12 := m_neN g_b2 n_b12
  have ne_b3_b12 : b3 ≠ b12 := m_neN g_b3 n_b12
  have ne_b4_b12 : b4 ≠ b12 := m_neN g_b4 n_b12
  have ne_b5_b12 : b5 ≠ b12 := m_neN g_b5 n_b12
  have ne_b6_b12 : b6 ≠ b12 := m_neN g_b6 n_b12
  have ne_b7_b12 : b7 ≠ b12 := m_neN g_b7 n_b12
  have ne_b8_b12 : b8 ≠ b12 := m_neN g_b8 n_b12
  have ne_b9_b12 : b9 ≠ b12 := m_neN g_b9 n_b12
  have ne_b10_b12 : b10 ≠ b12 := m_neN g_b10 n_b12
  have ne_b11_b12 : b11 ≠ b12 := m_neN g_b11 n_b12
  have k_b12 : M b12 = none := hN b12 n_b12
  have hM : mOK E.1 (mA M sz) (mUp M22 b12 (mI E 8 (fun _ => 0))) H := hM
  obtain ⟨M23, eM23⟩ : ∃ z, z = mUp M22 b12 (mI E 8 (fun _ => 0)) := ⟨_, rfl⟩
  rw [← eM23] at hM
  have g_y : M23 y = some (mO 8 [.ref b1, .ref b2, .ref b3, .ref b4, .ref b5, .int 0, .ref b6, .ref b7, .ref b8, .ref b9, .ref b10, .ref b11, .int 0, .null, .null, .int 0, .int 0, .int 0, .null, .null, .null]) := by rw [eM23]; exact mUp_at (m_neN g_y n_b12) g_y
  have g_b1 : M23 b1 = some (mI E 10 (fun _ => 0)) := by rw [eM23]; exact mUp_at (m_neN g_b1 n_b12) g_b1
  have g_b2 : M23 b2 = some (mI E 12 (fun _ => 0)) := by rw [eM23]; exact mUp_at (m_neN g_b2 n_b12) g_b2
  have g_b3 : M23 b3 = some (mI E 24 (fun _ => 0)) := by rw [eM23]; exact mUp_at (m_neN g_b3 n_b12) g_b3
  have g_b4 : M23 b4 = some (mI E 24 (fun _ => 0)) := by rw [eM23]; exact mUp_at (m_neN g_b4 n_b12) g_b4
  have g_b5 : M23 b5 = some (mJ E 960 (fun _ => 0)) := by rw [eM23]; exact mUp_at (m_neN g_b5 n_b12) g_b5
  have g_b6 : M23 b6 = some (mI E 12 (fun _ => 0)) := by rw [eM23]; exact mUp_at (m_neN g_b6 n_b12) g_b6
  have g_b7 : M23 b7 = some (mI E 48 (fun _ => 0)) := by rw [eM23]; exact mUp_at (m_neN g_b7 n_b12) g_b7
  have g_b8 : M23 b8 = some (mI E 12 (fun _ => 0)) := by rw [eM23]; exact mUp_at (m_neN g_b8 n_b12) g_b8
  have g_b9 : M23 b9 = some (mZ E 12 (fun _ => 0)) := by rw [eM23]; exact mUp_at (m_neN g_b9 n_b12) g_b9
  have g_b10 : M23 b10 = some (mI E 12 (fun _ => 0)) := by rw [eM23]; exact mUp_at (m_neN g_b10 n_b12) g_b10
  have g_b11 : M23 b11 = some (mDb E 12 (fun _ => 0)) := by rw [eM23]; exact mUp_at (m_neN g_b11 n_b12) g_b11
  have g_b12 : M23 b12 = some (mI E 8 (fun _ => 0)) := by rw [eM23]; exact mUp_self _ _ _
  have hQ : ∀ q, M q ≠ none → q ≠ y → M23 q = M q := fun q hq hqy => (congrFun eM23 q).trans ((mUp_ne (fun z => hq (by rw [z]; exact k_b12))).trans (hQ q hq hqy))
  have hN : ∀ q, M23 q = none → M q = none := fun q hq => hN q (mUp_none (by rw [← eM23]; exact hq)).2
  refine m_putF (ci := 8) (v := .ref b12) (ty := .array .int) (C := RX10) (T := TX10) (N := 21) hx hb hts in_X10_init_X10 tyX10 tyX10_ok nmX10 hown hE hM hS g_y rfl 13 (by decide) (hts (.fieldLink RX10 46 "CallWays2Model" "kindOf" "[I") (by decide +kernel)) (fun _ h9 => h9) rfl hnm rfl (by decide +kernel) rfl rfl (Nat.le_of_ble_eq_true rfl) dX10_init_98 (fun H locs hM hS => ?_)
  have hM : mOK E.1 (mA M sz) (mUp M23 y (mO 8 [.ref b1, .ref b2, .ref b3, .ref b4, .ref b5, .int 0, .ref b6, .ref b7, .ref b8, .ref b9, .ref b10, .ref b11, .int 0, .ref b12, .null, .int 0, .int 0, .int 0, .null, .null, .null])) H := hM
  obtain ⟨M24, eM24⟩ : ∃ z, z = mUp M23 y (mO 8 [.ref b1, .ref b2, .ref b3, .ref b4, .ref b5, .int 0, .ref b6, .ref b7, .ref b8, .ref b9, .ref b10, .ref b11, .int 0, .ref b12, .null, .int 0, .int 0, .int 0, .null, .null, .null]) := ⟨_, rfl⟩
  rw [← eM24] at hM
  have g_b1_ : M24 b1 = some (mI E 10 (fun _ => 0)) := by rw [eM24]; exact mUp_at (Ne.symm ne_y_b1) g_b1
  have g_b2_ : M24 b2 = some (mI E 12 (fun _ => 0)) := by rw [eM24]; exact mUp_at (Ne.symm ne_y_b2) g_b2
  have g_b3_ : M24 b3 = some (mI E 24 (fun _ => 0)) := by rw [eM24]; exact mUp_at (Ne.symm ne_y_b3) g_b3
  have g_b4_ : M24 b4 = some (mI E 24 (fun _ => 0)) := by rw [eM24]; exact mUp_at (Ne.symm ne_y_b4) g_b4
  have g_b5_ : M24 b5 = some (mJ E 960 (fun _ => 0)) := by rw [eM24]; exact mUp_at (Ne.symm ne_y_b5) g_b5
  have g_b6_ : M24 b6 = some (mI E 12 (fun _ => 0)) := by rw [eM24]; exact mUp_at (Ne.symm ne_y_b6) g_b6
  have g_b7_ : M24 b7 = some (mI E 48 (fun _ => 0)) := by rw [eM24]; exact mUp_at (Ne.symm ne_y_b7) g_b7
  have g_b8_ : M24 b8 = some (mI E 12 (fun _ => 0)) := by rw [eM24]; exact mUp_at (Ne.symm ne_y_b8) g_b8
  have g_b9_ : M24 b9 = some (mZ E 12 (fun _ => 0)) := by rw [eM24]; exact mUp_at (Ne.symm ne_y_b9) g_b9
  have g_b10_ : M24 b10 = some (mI E 12 (fun _ => 0)) := by rw [eM24]; exact mUp_at (Ne.symm ne_y_b10) g_b10
  have g_b11_ : M24 b11 = some (mDb E 12 (fun _ => 0)) := by rw [eM24]; exact mUp_at (Ne.symm ne_y_b11) g_b11
  have g_b12_ : M24 b12 = some (mI E 8 (fun _ => 0)) := by rw [eM24]; exact mUp_at (Ne.symm ne_y_b12) g_b12
  have g_b1 := g_b1_
  have g_b2 := g_b2_
  have g_b3 := g_b3_
  have g_b4 := g_b4_
  have g_b5 := g_b5_
  have g_b6 := g_b6_
  have g_b7 := g_b7_
  have g_b8 := g_b8_
  have g_b9 := g_b9_
  have g_b10 := g_b10_
  have g_b11 := g_b11_
  have g_b12 := g_b12_
  have g_y : M24 y = some (mO 8 [.ref b1, .ref b2, .ref b3, .ref b4, .ref b5, .int 0, .ref b6, .ref b7, .ref b8, .ref b9, .ref b10, .ref b11, .int 0, .ref b12, .null, .int 0, .int 0, .int 0, .null, .null, .null]) := by rw [eM24]; exact mUp_self _ _ _
  have hQ : ∀ q, M q ≠ none → q ≠ y → M24 q = M q := fun q hq hqy => (by rw [eM24, mUp_ne hqy]; exact hQ q hq hqy)
  have hN : ∀ q, M24 q = none → M q = none := fun q hq => hN q (mUp_none (by rw [← eM24]; exact hq)).2
  refine lv_aload_n hx hb dX10_init_101 rfl (lv_at hl 0 rfl) ?_
  refine lv_bipush (v := 8) hx hb dX10_init_102 (by decide) ?_
  refine m_newI (N' := 8) hx hb (hts (.arrayClass .int) (by decide +kernel)) hE hM hS hA (by decide) (by decide) (by decide) (by show 0 + 1 + 1 + 1 + 1 + 1 + 1 + 1 + 1 + 1 + 1 + 1 + 1 + 1 ≤ 16; omega) (by show 0 + 10 + 12 + 24 + 24 + 960 + 12 + 48 + 12 + 12 + 12 + 12 + 8 + 8 ≤ 1237; omega) dX10_init_104 (fun b13 H n_b13 hM hS => ?_)
  have ne_y_b13 : y ≠ b13 := m_neN g_y n_b13
  have ne_b1_b13 : b1 ≠ b13 := m_neN g_b1 n_b13
  have ne_b2_b13 : b2 ≠ b13 := m_neN g_b2 n_b13
  have ne_b3_b13 : b3 ≠ b13 := m_neN g_b3 n_b13
  have ne_b4_b13 : b4 ≠ b13 := m_neN g_b4 n_b13
  have ne_b5_b13 : b5 ≠ b13 := m_neN g_b5 n_b13
  have ne_b6_b13 : b6 ≠ b13 := m_neN g_b6 n_b13
  have ne_b7_b13 : b7 ≠ b13 := m_neN g_b7 n_b13
  have ne_b8_b13 : b8 ≠ b13 := m_neN g_b8 n_b13
  have ne_b9_b13 : b9 ≠ b13 := m_neN g_b9 n_b13
  have ne_b10_b13 : b10 ≠ b13 := m_neN g_b10 n_b13
  have ne_b11_b13 : b11 ≠ b13 := m_neN g_b11 n_b13
  have ne_b12_b13 : b12 ≠ b13 := m_neN g_b12 n_b13
  have k_b13 : M b13 = none := hN b13 n_b13
  have hM : mOK E.1 (mA M sz) (mUp M24 b13 (mI E 8 (fun _ => 0))) H := hM
  obtain ⟨M25, eM25⟩ : ∃ z, z = mUp M24 b13 (mI E 8 (fun _ => 0)) := ⟨_, rfl⟩
  rw [← eM25] at hM
  have g_y : M25 y = some (mO 8 [.ref b1, .ref b2, .ref b3, .ref b4, .ref b5, .int 0, .ref b6, .ref b7, .ref b8, .ref b9, .ref b10, .ref b11, .int 0, .ref b12, .null, .int 0, .int 0, .int 0, .null, .null, .null]) := by rw [eM25]; exact mUp_at (m_neN g_y n_b13) g_y
  have g_b1 : M25 b1 = some (mI E 10 (fun _ => 0)) := by rw [eM25]; exact mUp_at (m_neN g_b1 n_b13) g_b1
  have g_b2 : M25 b2 = some (mI E 12 (fun _ => 0)) := by rw [eM25]; exact mUp_at (m_neN g_b2 n_b13) g_b2
  have g_b3 : M25 b3 = some (mI E 24 (fun _ => 0)) := by rw [eM25]; exact mUp_at (m_neN g_b3 n_b13) g_b3
  have g_b4 : M25 b4 = some (mI E 24 (fun _ => 0)) := by rw [eM25]; exact mUp_at (m_neN g_b4 n_b13) g_b4
  have g_b5 : M25 b5 = some (mJ E 960 (fun _ => 0)) := by rw [eM25]; exact mUp_at (m_neN g_b5 n_b13) g_b5
  have g_b6 : M25 b6 = some (mI E 12 (fun _ => 0)) := by rw [eM25]; exact mUp_at (m_neN g_b6 n_b13) g_b6
  have g_b7 : M25 b7 = some (mI E 48 (fun _ => 0)) := by rw [eM25]; exact mUp_at (m_neN g_b7 n_b13) g_b7
  have g_b8 : M25 b8 = some (mI E 12 (fun _ => 0)) := by rw [eM25]; exact mUp_at (m_neN g_b8 n_b13) g_b8
  have g_b9 : M25 b9 = some (mZ E 12 (fun _ => 0)) := by rw [eM25]; exact mUp_at (m_neN g_b9 n_b13) g_b9
  have g_b10 : M25 b10 = some (mI E 12 (fun _ => 0)) := by rw [eM25]; exact mUp_at (m_neN g_b10 n_b13) g_b10
  have g_b11 : M25 b11 = some (mDb E 12 (fun _ => 0)) := by rw [eM25]; exact mUp_at (m_neN g_b11 n_b13) g_b11
  have g_b12 : M25 b12 = some (mI E 8 (fun _ => 0)) := by rw [eM25]; exact mUp_at (m_neN g_b12 n_b13) g_b12
  have g_b13 : M25 b13 = some (mI E 8 (fun _ => 0)) := by rw [eM25]; exact mUp_self _ _ _
  have hQ : ∀ q, M q ≠ none → q ≠ y → M25 q = M q := fun q hq hqy => (congrFun eM25 q).trans ((mUp_ne (fun z => hq (by rw [z]; exact k_b13))).trans (hQ q hq hqy))
  have hN : ∀ q, M25 q = none → M q = none := fun q hq => hN q (mUp_none (by rw [← eM25]; exact hq)).2
  refine m_putF (ci := 8) (v := .ref b13) (ty := .array .int) (C := RX10) (T := TX10) (N := 21) hx hb hts in_X10_init_X10 tyX10 tyX10_ok nmX10 hown hE hM hS g_y rfl 14 (by decide) (hts (.fieldLink RX10 49 "CallWays2Model" "numberOf" "[I") (by decide +kernel)) (fun _ h9 => h9) rfl hnm rfl (by decide +kernel) rfl rfl (Nat.le_of_ble_eq_true rfl) dX10_init_106 (fun H locs hM hS => ?_)
  have hM : mOK E.1 (mA M sz) (mUp M25 y (mO 8 [.ref b1, .ref b2, .ref b3, .ref b4, .ref b5, .int 0, .ref b6, .ref b7, .ref b8, .ref b9, .ref b10, .ref b11, .int 0, .ref b12, .ref b13, .int 0, .int 0, .int 0, .null, .null, .null])) H := hM
  obtain ⟨M26, eM26⟩ : ∃ z, z = mUp M25 y (mO 8 [.ref b1, .ref b2, .ref b3, .ref b4, .ref b5, .int 0, .ref b6, .ref b7, .ref b8, .ref b9, .ref b10, .ref b11, .int 0, .ref b12, .ref b13, .int 0, .int 0, .int 0, .null, .null, .null]) := ⟨_, rfl⟩
  rw [← eM26] at hM
  have g_b1_ : M26 b1 = some (mI E 10 (fun _ => 0)) := by rw [eM26]; exact mUp_at (Ne.symm ne_y_b1) g_b1
  have g_b2_ : M26 b2 = some (mI E 12 (fun _ => 0)) := by rw [eM26]; exact mUp_at (Ne.symm ne_y_b2) g_b2
  have g_b3_ : M26 b3 = some (mI E 24 (fun _ => 0)) := by rw [eM26]; exact mUp_at (Ne.symm ne_y_b3) g_b3
  have g_b4_ : M26 b4 = some (mI E 24 (fun _ => 0)) := by rw [eM26]; exact mUp_at (Ne.symm ne_y_b4) g_b4
  have g_b5_ : M26 b5 = some (mJ E 960 (fun _ => 0)) := by rw [eM26]; exact mUp_at (Ne.symm ne_y_b5) g_b5
  have g_b6_ : M26 b6 = some (mI E 12 (fun _ => 0)) := by rw [eM26]; exact mUp_at (Ne.symm ne_y_b6) g_b6
  have g_b7_ : M26 b7 = some (mI E 48 (fun _ => 0)) := by rw [eM26]; exact mUp_at (Ne.symm ne_y_b7) g_b7
  have g_b8_ : M26 b8 = some (mI E 12 (fun _ => 0)) := by rw [eM26]; exact mUp_at (Ne.symm ne_y_b8) g_b8
  have g_b9_ : M26 b9 = some (mZ E 12 (fun _ => 0)) := by rw [eM26]; exact mUp_at (Ne.symm ne_y_b9) g_b9
  have g_b10_ : M26 b10 = some (mI E 12 (fun _ => 0)) := by rw [eM26]; exact mUp_at (Ne.symm ne_y_b10) g_b10
  have g_b11_ : M26 b11 = some (mDb E 12 (fun _ => 0)) := by rw [eM26]; exact mUp_at (Ne.symm ne_y_b11) g_b11
  have g_b12_ : M26 b12 = some (mI E 8 (fun _ => 0)) := by rw [eM26]; exact mUp_at (Ne.symm ne_y_b12) g_b12
  have g_b13_ : M26 b13 = some (mI E 8 (fun _ => 0)) := by rw [eM26]; exact mUp_at (Ne.symm ne_y_b13) g_b13
  have g_b1 := g_b1_
  have g_b2 := g_b2_
  have g_b3 := g_b3_
  have g_b4 := g_b4_
  have g_b5 := g_b5_
  have g_b6 := g_b6_
  have g_b7 := g_b7_
  have g_b8 := g_b8_
  have g_b9 := g_b9_
  have g_b10 := g_b10_
  have g_b11 := g_b11_
  have g_b12 := g_b12_
  have g_b13 := g_b13_
  have g_y : M26 y = some (mO 8 [.ref b1, .ref b2, .ref b3, .ref b4, .ref b5, .int 0, .ref b6, .ref b7, .ref b8, .ref b9, .ref b10, .ref b11, .int 0, .ref b12, .ref b13, .int 0, .int 0, .int 0, .null, .null, .null]) := by rw [eM26]; exact mUp_self _ _ _
  have hQ : ∀ q, M q ≠ none → q ≠ y → M26 q = M q := fun q hq hqy => (by rw [eM26, mUp_ne hqy]; exact hQ q hq hqy)
  have hN : ∀ q, M26 q = none → M q = none := fun q hq => hN q (mUp_none (by rw [← eM26]; exact hq)).2
  refine lv_aload_n hx hb dX10_init_109 rfl (lv_at hl 0 rfl) ?_
  refine lv_iconst (v := 3) hx hb dX10_init_110 (by decide) ?_
  refine m_newI (N' := 3) hx hb (hts (.arrayClass .int) (by decide +kernel)) hE hM hS hA (by decide) (by decide) (by decide) (by show 0 + 1 + 1 + 1 + 1 + 1 + 1 + 1 + 1 + 1 + 1 + 1 + 1 + 1 + 1 ≤ 16; omega) (by show 0 + 10 + 12 + 24 + 24 + 960 + 12 + 48 + 12 + 12 + 12 + 12 + 8 + 8 + 3 ≤ 1237; omega) dX10_init_111 (fun b14 H n_b14 hM hS => ?_)
  have ne_y_b14 : y ≠ b14 := m_neN g_y n_b14
  have ne_b1_b14 : b1 ≠ b14 := m_neN g_b1 n_b14
  have ne_b2_b14 : b2 ≠ b14 := m_neN g_b2 n_b14
  have ne_b3_b14 : b3 ≠ b14 := m_neN g_b3 n_b14
  have ne_b4_b14 : b4 ≠ b14 := m_neN g_b4 n_b14
  have ne_b5_b14 : b5 ≠ b14 := m_neN g_b5 n_b14
  have ne_b6_b14 : b6 ≠ b14 := m_neN g_b6 n_b14
  have ne_b7_b14 : b7 ≠ b14 := m_neN g_b7 n_b14
  have ne_b8_b14 : b8 ≠ b14 := m_neN g_b8 n_b14
  have ne_b9_b14 : b9 ≠ b14 := m_neN g_b9 n_b14
  have ne_b10_b14 : b10 ≠ b14 := m_neN g_b10 n_b14
  have ne_b11_b14 : b11 ≠ b14 := m_neN g_b11 n_b14
  have ne_b12_b14 : b12 ≠ b14 := m_neN g_b12 n_b14
  have ne_b13_b14 : b13 ≠ b14 := m_neN g_b13 n_b14
  have k_b14 : M b14 = none := hN b14 n_b14
  have hM : mOK E.1 (mA M sz) (mUp M26 b14 (mI E 3 (fun _ => 0))) H := hM
  obtain ⟨M27, eM27⟩ : ∃ z, z = mUp M26 b14 (mI E 3 (fun _ => 0)) := ⟨_, rfl⟩
  rw [← eM27] at hM
  have g_y : M27 y = some (mO 8 [.ref b1, .ref b2, .ref b3, .ref b4, .ref b5, .int 0, .ref b6, .ref b7, .ref b8, .ref b9, .ref b10, .ref b11, .int 0, .ref b12, .ref b13, .int 0, .int 0, .int 0, .null, .null, .null]) := by rw [eM27]; exact mUp_at (m_neN g_y n_b14) g_y
  have g_b1 : M27 b1 = some (mI E 10 (fun _ => 0)) := by rw [eM27]; exact mUp_at (m_neN g_b1 n_b14) g_b1
  have g_b2 : M27 b2 = some (mI E 12 (fun _ => 0)) := by rw [eM27]; exact mUp_at (m_neN g_b2 n_b14) g_b2
  have g_b3 : M27 b3 = some (mI E 24 (fun _ => 0)) := by rw [eM27]; exact mUp_at (m_neN g_b3 n_b14) g_b3
  have g_b4 : M27 b4 = some (mI E 24 (fun _ => 0)) := by rw [eM27]; exact mUp_at (m_neN g_b4 n_b14) g_b4
  have g_b5 : M27 b5 = some (mJ E 960 (fun _ => 0)) := by rw [eM27]; exact mUp_at (m_neN g_b5 n_b14) g_b5
  have g_b6 : M27 b6 = some (mI E 12 (fun _ => 0)) := by rw [eM27]; exact mUp_at (m_neN g_b6 n_b14) g_b6
  have g_b7 : M27 b7 = some (mI E 48 (fun _ => 0)) := by rw [eM27]; exact mUp_at (m_neN g_b7 n_b14) g_b7
  have g_b8 : M27 b8 = some (mI E 12 (fun _ => 0)) := by rw [eM27]; exact mUp_at (m_neN g_b8 n_b14) g_b8
  have g_b9 : M27 b9 = some (mZ E 12 (fun _ => 0)) := by rw [eM27]; exact mUp_at (m_neN g_b9 n_b14) g_b9
  have g_b10 : M27 b10 = some (mI E 12 (fun _ => 0)) := by rw [eM27]; exact mUp_at (m_neN g_b10 n_b14) g_b10
  have g_b11 : M27 b11 = some (mDb E 12 (fun _ => 0)) := by rw [eM27]; exact mUp_at (m_neN g_b11 n_b14) g_b11
  have g_b12 : M27 b12 = some (mI E 8 (fun _ => 0)) := by rw [eM27]; exact mUp_at (m_neN g_b12 n_b14) g_b12
  have g_b13 : M27 b13 = some (mI E 8 (fun _ => 0)) := by rw [eM27]; exact mUp_at (m_neN g_b13 n_b14) g_b13
  have g_b14 : M27 b14 = some (mI E 3 (fun _ => 0)) := by rw [eM27]; exact mUp_self _ _ _
  have hQ : ∀ q, M q ≠ none → q ≠ y → M27 q = M q := fun q hq hqy => (congrFun eM27 q).trans ((mUp_ne (fun z => hq (by rw [z]; exact k_b14))).trans (hQ q hq hqy))
  have hN : ∀ q, M27 q = none → M q = none := fun q hq => hN q (mUp_none (by rw [← eM27]; exact hq)).2
  refine m_putF (ci := 8) (v := .ref b14) (ty := .array .int) (C := RX10) (T := TX10) (N := 21) hx hb hts in_X10_init_X10 tyX10 tyX10_ok nmX10 hown hE hM hS g_y rfl 18 (by decide) (hts (.fieldLink RX10 52 "CallWays2Model" "counts" "[I") (by decide +kernel)) (fun _ h9 => h9) rfl hnm rfl (by decide +kernel) rfl rfl (Nat.le_of_ble_eq_true rfl) dX10_init_113 (fun H locs hM hS => ?_)
  have hM : mOK E.1 (mA M sz) (mUp M27 y (mO 8 [.ref b1, .ref b2, .ref b3, .ref b4, .ref b5, .int 0, .ref b6, .ref b7, .ref b8, .ref b9, .ref b10, .ref b11, .int 0, .ref b12, .ref b13, .int 0, .int 0, .int 0, .ref b14, .null, .null])) H := hM
  obtain ⟨M28, eM28⟩ : ∃ z, z = mUp M27 y (mO 8 [.ref b1, .ref b2, .ref b3, .ref b4, .ref b5, .int 0, .ref b6, .ref b7, .ref b8, .ref b9, .ref b10, .ref b11, .int 0, .ref b12, .ref b13, .int 0, .int 0, .int 0, .ref b14, .null, .null]) := ⟨_, rfl⟩
  rw [← eM28] at hM
  have g_b1_ : M28 b1 = some (mI E 10 (fun _ => 0)) := by rw [eM28]; exact mUp_at (Ne.symm ne_y_b1) g_b1
  have g_b2_ : M28 b2 = some (mI E 12 (fun _ => 0)) := by rw [eM28]; exact mUp_at (Ne.symm ne_y_b2) g_b2
  have g_b3_ : M28 b3 = some (mI E 24 (fun _ => 0)) := by rw [eM28]; exact mUp_at (Ne.symm ne_y_b3) g_b3
  have g_b4_ : M28 b4 = some (mI E 24 (fun _ => 0)) := by rw [eM28]; exact mUp_at (Ne.symm ne_y_b4) g_b4
  have g_b5_ : M28 b5 = some (mJ E 960 (fun _ => 0)) := by rw [eM28]; exact mUp_at (Ne.symm ne_y_b5) g_b5
  have g_b6_ : M28 b6 = some (mI E 12 (fun _ => 0)) := by rw [eM28]; exact mUp_at (Ne.symm ne_y_b6) g_b6
  have g_b7_ : M28 b7 = some (mI E 48 (fun _ => 0)) := by rw [eM28]; exact mUp_at (Ne.symm ne_y_b7) g_b7
  have g_b8_ : M28 b8 = some (mI E 12 (fun _ => 0)) := by rw [eM28]; exact mUp_at (Ne.symm ne_y_b8) g_b8
  have g_b9_ : M28 b9 = some (mZ E 12 (fun _ => 0)) := by rw [eM28]; exact mUp_at (Ne.symm ne_y_b9) g_b9
  have g_b10_ : M28 b10 = some (mI E 12 (fun _ => 0)) := by rw [eM28]; exact mUp_at (Ne.symm ne_y_b10) g_b10
  have g_b11_ : M28 b11 = some (mDb E 12 (fun _ => 0)) := by rw [eM28]; exact mUp_at (Ne.symm ne_y_b11) g_b11
  have g_b12_ : M28 b12 = some (mI E 8 (fun _ => 0)) := by rw [eM28]; exact mUp_at (Ne.symm ne_y_b12) g_b12
  have g_b13_ : M28 b13 = some (mI E 8 (fun _ => 0)) := by rw [eM28]; exact mUp_at (Ne.symm ne_y_b13) g_b13
  have g_b14_ : M28 b14 = some (mI E 3 (fun _ => 0)) := by rw [eM28]; exact mUp_at (Ne.symm ne_y_b14) g_b14
  have g_b1 := g_b1_
  have g_b2 := g_b2_
  have g_b3 := g_b3_
  have g_b4 := g_b4_
  have g_b5 := g_b5_
  have g_b6 := g_b6_
  have g_b7 := g_b7_
  have g_b8 := g_b8_
  have g_b9 := g_b9_
  have g_b10 := g_b10_
  have g_b11 := g_b11_
  have g_b12 := g_b12_
  have g_b13 := g_b13_
  have g_b14 := g_b14_
  have g_y : M28 y = some (mO 8 [.ref b1, .ref b2, .ref b3, .ref b4, .ref b5, .int 0, .ref b6, .ref b7, .ref b8, .ref b9, .ref b10, .ref b11, .int 0, .ref b12, .ref b13, .int 0, .int 0, .int 0, .ref b14, .null, .null]) := by rw [eM28]; exact mUp_self _ _ _
  have hQ : ∀ q, M q ≠ none → q ≠ y → M28 q = M q := fun q hq hqy => (by rw [eM28, mUp_ne hqy]; exact hQ q hq hqy)
  have hN : ∀ q, M28 q = none → M q = none := fun q hq => hN q (mUp_none (by rw [← eM28]; exact hq)).2
  refine lv_aload_n hx hb dX10_init_116 rfl (lv_at hl 0 rfl) ?_
  refine lv_bipush (v := 40) hx hb dX10_init_117 (by decide) ?_
  refine m_newD (N' := 40) hx hb (hts (.arrayClass .double) (by decide +kernel)) hE hM hS hA (by decide) (by decide) (by decide) (by show 0 + 1 + 1 + 1 + 1 + 1 + 1 + 1 + 1 + 1 + 1 + 1 + 1 + 1 + 1 + 1 ≤ 16; omega) (by show 0 + 10 + 12 + 24 + 24 + 960 + 12 + 48 + 12 + 12 + 12 + 12 + 8 + 8 + 3 + 40 ≤ 1237; omega) dX10_init_119 (fun b15 H n_b15 hM hS => ?_)
  have ne_y_b15 : y ≠ b15 := m_neN g_y n_b15
  have ne_b1_b15 : b1 ≠ b15 := m_neN g_b1 n_b15
  have ne_b2_b15 : b2 ≠ b15 := m_neN g_b2 n_b15
  have ne_b3_b15 : b3 ≠ b15 := m_neN g_b3 n_b15
  have ne_b4_b15 : b4 ≠ b15 := m_neN g_b4 n_b15
  have ne_b5_b15 : b5 ≠ b15 := m_neN g_b5 n_b15
  have ne_b6_b15 : b6 ≠ b15 := m_neN g_b6 n_b15
  have ne_b7_b15 : b7 ≠ b15 := m_neN g_b7 n_b15
  have ne_b8_b15 : b8 ≠ b15 := m_neN g_b8 n_b15
  have ne_b9_b15 : b9 ≠ b15 := m_neN g_b9 n_b15
  have ne_b10_b15 : b10 ≠ b15 := m_neN g_b10 n_b15
  have ne_b11_b15 : b11 ≠ b15 := m_neN g_b11 n_b15
  have ne_b12_b15 : b12 ≠ b15 := m_neN g_b12 n_b15
  have ne_b13_b15 : b13 ≠ b15 := m_neN g_b13 n_b15
  have ne_b14_b15 : b14 ≠ b15 := m_neN g_b14 n_b15
  have k_b15 : M b15 = none := hN b15 n_b15
  have hM : mOK E.1 (mA M sz) (mUp M28 b15 (mDb E 40 (fun _ => 0))) H := hM
  obtain ⟨M29, eM29⟩ : ∃ z, z = mUp M28 b15 (mDb E 40 (fun _ => 0)) := ⟨_, rfl⟩
  rw [← eM29] at hM
  have g_y : M29 y = some (mO 8 [.ref b1, .ref b2, .ref b3, .ref b4, .ref b5, .int 0, .ref b6, .ref b7, .ref b8, .ref b9, .ref b10, .ref b11, .int 0, .ref b12, .ref b13, .int 0, .int 0, .int 0, .ref b14, .null, .null]) := by rw [eM29]; exact mUp_at (m_neN g_y n_b15) g_y
  have g_b1 : M29 b1 = some (mI E 10 (fun _ => 0)) := by rw [eM29]; exact mUp_at (m_neN g_b1 n_b15) g_b1
  have g_b2 : M29 b2 = some (mI E 12 (fun _ => 0)) := by rw [eM29]; exact mUp_at (m_neN g_b2 n_b15) g_b2
  have g_b3 : M29 b3 = some (mI E 24 (fun _ => 0)) := by rw [eM29]; exact mUp_at (m_neN g_b3 n_b15) g_b3
  have g_b4 : M29 b4 = some (mI E 24 (fun _ => 0)) := by rw [eM29]; exact mUp_at (m_neN g_b4 n_b15) g_b4
  have g_b5 : M29 b5 = some (mJ E 960 (fun _ => 0)) := by rw [eM29]; exact mUp_at (m_neN g_b5 n_b15) g_b5
  have g_b6 : M29 b6 = some (mI E 12 (fun _ => 0)) := by rw [eM29]; exact mUp_at (m_neN g_b6 n_b15) g_b6
  have g_b7 : M29 b7 = some (mI E 48 (fun _ => 0)) := by rw [eM29]; exact mUp_at (m_neN g_b7 n_b15) g_b7
  have g_b8 : M29 b8 = some (mI E 12 (fun _ => 0)) := by rw [eM29]; exact mUp_at (m_neN g_b8 n_b15) g_b8
  have g_b9 : M29 b9 = some (mZ E 12 (fun _ => 0)) := by rw [eM29]; exact mUp_at (m_neN g_b9 n_b15) g_b9
  have g_b10 : M29 b10 = some (mI E 12 (fun _ => 0)) := by rw [eM29]; exact mUp_at (m_neN g_b10 n_b15) g_b10
  have g_b11 : M29 b11 = some (mDb E 12 (fun _ => 0)) := by rw [eM29]; exact mUp_at (m_neN g_b11 n_b15) g_b11
  have g_b12 : M29 b12 = some (mI E 8 (fun _ => 0)) := by rw [eM29]; exact mUp_at (m_neN g_b12 n_b15) g_b12
  have g_b13 : M29 b13 = some (mI E 8 (fun _ => 0)) := by rw [eM29]; exact mUp_at (m_neN g_b13 n_b15) g_b13
  have g_b14 : M29 b14 = some (mI E 3 (fun _ => 0)) := by rw [eM29]; exact mUp_at (m_neN g_b14 n_b15) g_b14
  have g_b15 : M29 b15 = some (mDb E 40 (fun _ => 0)) := by rw [eM29]; exact mUp_self _ _ _
  have hQ : ∀ q, M q ≠ none → q ≠ y → M29 q = M q := fun q hq hqy => (congrFun eM29 q).trans ((mUp_ne (fun z => hq (by rw [z]; exact k_b15))).trans (hQ q hq hqy))
  have hN : ∀ q, M29 q = none → M q = none := fun q hq => hN q (mUp_none (by rw [← eM29]; exact hq)).2
  refine m_putF (ci := 8) (v := .ref b15) (ty := .array .double) (C := RX10) (T := TX10) (N := 21) hx hb hts in_X10_init_X10 tyX10 tyX10_ok nmX10 hown hE hM hS g_y rfl 19 (by decide) (hts (.fieldLink RX10 55 "CallWays2Model" "come" "[D") (by decide +kernel)) (fun _ h9 => h9) rfl hnm rfl (by decide +kernel) rfl rfl (Nat.le_of_ble_eq_true rfl) dX10_init_121 (fun H locs hM hS => ?_)
  have hM : mOK E.1 (mA M sz) (mUp M29 y (mO 8 [.ref b1, .ref b2, .ref b3, .ref b4, .ref b5, .int 0, .ref b6, .ref b7, .ref b8, .ref b9, .ref b10, .ref b11, .int 0, .ref b12, .ref b13, .int 0, .int 0, .int 0, .ref b14, .ref b15, .null])) H := hM
  obtain ⟨M30, eM30⟩ : ∃ z, z = mUp M29 y (mO 8 [.ref b1, .ref b2, .ref b3, .ref b4, .ref b5, .int 0, .ref b6, .ref b7, .ref b8, .ref b9, .ref b10, .ref b11, .int 0, .ref b12, .ref b13, .int 0, .int 0, .int 0, .ref b14, .ref b15, .null]) := ⟨_, rfl⟩
  rw [← eM30] at hM
  have g_b1_ : M30 b1 = some (mI E 10 (fun _ => 0)) := by rw [eM30]; exact mUp_at (Ne.symm ne_y_b1) g_b1
  have g_b2_ : M30 b2 = some (mI E 12 (fun _ => 0)) := by rw [eM30]; exact mUp_at (Ne.symm ne_y_b2) g_b2
  have g_b3_ : M30 b3 = some (mI E 24 (fun _ => 0)) := by rw [eM30]; exact mUp_at (Ne.symm ne_y_b3) g_b3
  have g_b4_ : M30 b4 = some (mI E 24 (fun _ => 0)) := by rw [eM30]; exact mUp_at (Ne.symm ne_y_b4) g_b4
  have g_b5_ : M30 b5 = some (mJ E 960 (fun _ => 0)) := by rw [eM30]; exact mUp_at (Ne.symm ne_y_b5) g_b5
  have g_b6_ : M30 b6 = some (mI E 12 (fun _ => 0)) := by rw [eM30]; exact mUp_at (Ne.symm ne_y_b6) g_b6
  have g_b7_ : M30 b7 = some (mI E 48 (fun _ => 0)) := by rw [eM30]; exact mUp_at (Ne.symm ne_y_b7) g_b7
  have g_b8_ : M30 b8 = some (mI E 12 (fun _ => 0)) := by rw [eM30]; exact mUp_at (Ne.symm ne_y_b8) g_b8
  have g_b9_ : M30 b9 = some (mZ E 12 (fun _ => 0)) := by rw [eM30]; exact mUp_at (Ne.symm ne_y_b9) g_b9
  have g_b10_ : M30 b10 = some (mI E 12 (fun _ => 0)) := by rw [eM30]; exact mUp_at (Ne.symm ne_y_b10) g_b10
  have g_b11_ : M30 b11 = some (mDb E 12 (fun _ => 0)) := by rw [eM30]; exact mUp_at (Ne.symm ne_y_b11) g_b11
  have g_b12_ : M30 b12 = some (mI E 8 (fun _ => 0)) := by rw [eM30]; exact mUp_at (Ne.symm ne_y_b12) g_b12
  have g_b13_ : M30 b13 = some (mI E 8 (fun _ => 0)) := by rw [eM30]; exact mUp_at (Ne.symm ne_y_b13) g_b13
  have g_b14_ : M30 b14 = some (mI E 3 (fun _ => 0)) := by rw [eM30]; exact mUp_at (Ne.symm ne_y_b14) g_b14
  have g_b15_ : M30 b15 = some (mDb E 40 (fun _ => 0)) := by rw [eM30]; exact mUp_at (Ne.symm ne_y_b15) g_b15
  have g_b1 := g_b1_
  have g_b2 := g_b2_
  have g_b3 := g_b3_
  have g_b4 := g_b4_
  have g_b5 := g_b5_
  have g_b6 := g_b6_
  have g_b7 := g_b7_
  have g_b8 := g_b8_
  have g_b9 := g_b9_
  have g_b10 := g_b10_
  have g_b11 := g_b11_
  have g_b12 := g_b12_
  have g_b13 := g_b13_
  have g_b14 := g_b14_
  have g_b15 := g_b15_
  have g_y : M30 y = some (mO 8 [.ref b1, .ref b2, .ref b3, .ref b4, .ref b5, .int 0, .ref b6, .ref b7, .ref b8, .ref b9, .ref b10, .ref b11, .int 0, .ref b12, .ref b13, .int 0, .int 0, .int 0, .ref b14, .ref b15, .null]) := by rw [eM30]; exact mUp_self _ _ _
  have hQ : ∀ q, M q ≠ none → q ≠ y → M30 q = M q := fun q hq hqy => (by rw [eM30, mUp_ne hqy]; exact hQ q hq hqy)
  have hN : ∀ q, M30 q = none → M q = none := fun q hq => hN q (mUp_none (by rw [← eM30]; exact hq)).2
  refine lv_aload_n hx hb dX10_init_124 rfl (lv_at hl 0 rfl) ?_
  refine lv_bipush (v := 40) hx hb dX10_init_125 (by decide) ?_
  refine m_newJ (N' := 40) hx hb (hts (.arrayClass .long) (by decide +kernel)) hE hM hS hA (by decide) (by decide) (by decide) (by show 0 + 1 + 1 + 1 + 1 + 1 + 1 + 1 + 1 + 1 + 1 + 1 + 1 + 1 + 1 + 1 + 1 ≤ 16; omega) (by show 0 + 10 + 12 + 24 + 24 + 960 + 12 + 48 + 12 + 12 + 12 + 12 + 8 + 8 + 3 + 40 + 40 ≤ 1237; omega) dX10_init_127 (fun b16 H n_b16 hM hS => ?_)
  have ne_y_b16 : y ≠ b16 := m_neN g_y n_b16
  have ne_b1_b16 : b1 ≠ b16 := m_neN g_b1 n_b16
  have ne_b2_b16 : b2 ≠ b16 := m_neN g_b2 n_b16
  have ne_b3_b16 : b3 ≠ b16 := m_neN g_b3 n_b16
  have ne_b4_b16 : b4 ≠ b16 := m_neN g_b4 n_b16
  have ne_b5_b16 : b5 ≠ b16 := m_neN g_b5 n_b16
  have ne_b6_b16 : b6 ≠ b16 := m_neN g_b6 n_b16
  have ne_b7_b16 : b7 ≠ b16 := m_neN g_b7 n_b16
  have ne_b8_b16 : b8 ≠ b16 := m_neN g_b8 n_b16
  have ne_b9_b16 : b9 ≠ b16 := m_neN g_b9 n_b16
  have ne_b10_b16 : b10 ≠ b16 := m_neN g_b10 n_b16
  have ne_b11_b16 : b11 ≠ b16 := m_neN g_b11 n_b16
  have ne_b12_b16 : b12 ≠ b16 := m_neN g_b12 n_b16
  have ne_b13_b16 : b13 ≠ b16 := m_neN g_b13 n_b16
  have ne_b14_b16 : b14 ≠ b16 := m_neN g_b14 n_b16
  have ne_b15_b16 : b15 ≠ b16 := m_neN g_b15 n_b16
  have k_b16 : M b16 = none := hN b16 n_b16
  have hM : mOK E.1 (mA M sz) (mUp M30 b16 (mJ E 40 (fun _ => 0))) H := hM
  obtain ⟨M31, eM31⟩ : ∃ z, z = mUp M30 b16 (mJ E 40 (fun _ => 0)) := ⟨_, rfl⟩
  rw [← eM31] at hM
  have g_y : M31 y = some (mO 8 [.ref b1, .ref b2, .ref b3, .ref b4, .ref b5, .int 0, .ref b6, .ref b7, .ref b8, .ref b9, .ref b10, .ref b11, .int 0, .ref b12, .ref b13, .int 0, .int 0, .int 0, .ref b14, .ref b15, .null]) := by rw [eM31]; exact mUp_at (m_neN g_y n_b16) g_y
  have g_b1 : M31 b1 = some (mI E 10 (fun _ => 0)) := by rw [eM31]; exact mUp_at (m_neN g_b1 n_b16) g_b1
  have g_b2 : M31 b2 = some (mI E 12 (fun _ => 0)) := by rw [eM31]; exact mUp_at (m_neN g_b2 n_b16) g_b2
  have g_b3 : M31 b3 = some (mI E 24 (fun _ => 0)) := by rw [eM31]; exact mUp_at (m_neN g_b3 n_b16) g_b3
  have g_b4 : M31 b4 = some (mI E 24 (fun _ => 0)) := by rw [eM31]; exact mUp_at (m_neN g_b4 n_b16) g_b4
  have g_b5 : M31 b5 = some (mJ E 960 (fun _ => 0)) := by rw [eM31]; exact mUp_at (m_neN g_b5 n_b16) g_b5
  have g_b6 : M31 b6 = some (mI E 12 (fun _ => 0)) := by rw [eM31]; exact mUp_at (m_neN g_b6 n_b16) g_b6
  have g_b7 : M31 b7 = some (mI E 48 (fun _ => 0)) := by rw [eM31]; exact mUp_at (m_neN g_b7 n_b16) g_b7
  have g_b8 : M31 b8 = some (mI E 12 (fun _ => 0)) := by rw [eM31]; exact mUp_at (m_neN g_b8 n_b16) g_b8
  have g_b9 : M31 b9 = some (mZ E 12 (fun _ => 0)) := by rw [eM31]; exact mUp_at (m_neN g_b9 n_b16) g_b9
  have g_b10 : M31 b10 = some (mI E 12 (fun _ => 0)) := by rw [eM31]; exact mUp_at (m_neN g_b10 n_b16) g_b10
  have g_b11 : M31 b11 = some (mDb E 12 (fun _ => 0)) := by rw [eM31]; exact mUp_at (m_neN g_b11 n_b16) g_b11
  have g_b12 : M31 b12 = some (mI E 8 (fun _ => 0)) := by rw [eM31]; exact mUp_at (m_neN g_b12 n_b16) g_b12
  have g_b13 : M31 b13 = some (mI E 8 (fun _ => 0)) := by rw [eM31]; exact mUp_at (m_neN g_b13 n_b16) g_b13
  have g_b14 : M31 b14 = some (mI E 3 (fun _ => 0)) := by rw [eM31]; exact mUp_at (m_neN g_b14 n_b16) g_b14
  have g_b15 : M31 b15 = some (mDb E 40 (fun _ => 0)) := by rw [eM31]; exact mUp_at (m_neN g_b15 n_b16) g_b15
  have g_b16 : M31 b16 = some (mJ E 40 (fun _ => 0)) := by rw [eM31]; exact mUp_self _ _ _
  have hQ : ∀ q, M q ≠ none → q ≠ y → M31 q = M q := fun q hq hqy => (congrFun eM31 q).trans ((mUp_ne (fun z => hq (by rw [z]; exact k_b16))).trans (hQ q hq hqy))
  have hN : ∀ q, M31 q = none → M q = none := fun q hq => hN q (mUp_none (by rw [← eM31]; exact hq)).2
  refine m_putF (ci := 8) (v := .ref b16) (ty := .array .long) (C := RX10) (T := TX10) (N := 21) hx hb hts in_X10_init_X10 tyX10 tyX10_ok nmX10 hown hE hM hS g_y rfl 20 (by decide) (hts (.fieldLink RX10 58 "CallWays2Model" "moved" "[J") (by decide +kernel)) (fun _ h9 => h9) rfl hnm rfl (by decide +kernel) rfl rfl (Nat.le_of_ble_eq_true rfl) dX10_init_129 (fun H locs hM hS => ?_)
  have hM : mOK E.1 (mA M sz) (mUp M31 y (mO 8 [.ref b1, .ref b2, .ref b3, .ref b4, .ref b5, .int 0, .ref b6, .ref b7, .ref b8, .ref b9, .ref b10, .ref b11, .int 0, .ref b12, .ref b13, .int 0, .int 0, .int 0, .ref b14, .ref b15, .ref b16])) H := hM
  obtain ⟨M32, eM32⟩ : ∃ z, z = mUp M31 y (mO 8 [.ref b1, .ref b2, .ref b3, .ref b4, .ref b5, .int 0, .ref b6, .ref b7, .ref b8, .ref b9, .ref b10, .ref b11, .int 0, .ref b12, .ref b13, .int 0, .int 0, .int 0, .ref b14, .ref b15, .ref b16]) := ⟨_, rfl⟩
  rw [← eM32] at hM
  have g_b1_ : M32 b1 = some (mI E 10 (fun _ => 0)) := by rw [eM32]; exact mUp_at (Ne.symm ne_y_b1) g_b1
  have g_b2_ : M32 b2 = some (mI E 12 (fun _ => 0)) := by rw [eM32]; exact mUp_at (Ne.symm ne_y_b2) g_b2
  have g_b3_ : M32 b3 = some (mI E 24 (fun _ => 0)) := by rw [eM32]; exact mUp_at (Ne.symm ne_y_b3) g_b3
  have g_b4_ : M32 b4 = some (mI E 24 (fun _ => 0)) := by rw [eM32]; exact mUp_at (Ne.symm ne_y_b4) g_b4
  have g_b5_ : M32 b5 = some (mJ E 960 (fun _ => 0)) := by rw [eM32]; exact mUp_at (Ne.symm ne_y_b5) g_b5
  have g_b6_ : M32 b6 = some (mI E 12 (fun _ => 0)) := by rw [eM32]; exact mUp_at (Ne.symm ne_y_b6) g_b6
  have g_b7_ : M32 b7 = some (mI E 48 (fun _ => 0)) := by rw [eM32]; exact mUp_at (Ne.symm ne_y_b7) g_b7
  have g_b8_ : M32 b8 = some (mI E 12 (fun _ => 0)) := by rw [eM32]; exact mUp_at (Ne.symm ne_y_b8) g_b8
  have g_b9_ : M32 b9 = some (mZ E 12 (fun _ => 0)) := by rw [eM32]; exact mUp_at (Ne.symm ne_y_b9) g_b9
  have g_b10_ : M32 b10 = some (mI E 12 (fun _ => 0)) := by rw [eM32]; exact mUp_at (Ne.symm ne_y_b10) g_b10
  have g_b11_ : M32 b11 = some (mDb E 12 (fun _ => 0)) := by rw [eM32]; exact mUp_at (Ne.symm ne_y_b11) g_b11
  have g_b12_ : M32 b12 = some (mI E 8 (fun _ => 0)) := by rw [eM32]; exact mUp_at (Ne.symm ne_y_b12) g_b12
  have g_b13_ : M32 b13 = some (mI E 8 (fun _ => 0)) := by rw [eM32]; exact mUp_at (Ne.symm ne_y_b13) g_b13
  have g_b14_ : M32 b14 = some (mI E 3 (fun _ => 0)) := by rw [eM32]; exact mUp_at (Ne.symm ne_y_b14) g_b14
  have g_b15_ : M32 b15 = some (mDb E 40 (fun _ => 0)) := by rw [eM32]; exact mUp_at (Ne.symm ne_y_b15) g_b15
  have g_b16_ : M32 b16 = some (mJ E 40 (fun _ => 0)) := by rw [eM32]; exact mUp_at (Ne.symm ne_y_b16) g_b16
  have g_b1 := g_b1_
  have g_b2 := g_b2_
  have g_b3 := g_b3_
  have g_b4 := g_b4_
  have g_b5 := g_b5_
  have g_b6 := g_b6_
  have g_b7 := g_b7_
  have g_b8 := g_b8_
  have g_b9 := g_b9_
  have g_b10 := g_b10_
  have g_b11 := g_b11_
  have g_b12 := g_b12_
  have g_b13 := g_b13_
  have g_b14 := g_b14_
  have g_b15 := g_b15_
  have g_b16 := g_b16_
  have g_y : M32 y = some (mO 8 [.ref b1, .ref b2, .ref b3, .ref b4, .ref b5, .int 0, .ref b6, .ref b7, .ref b8, .ref b9, .ref b10, .ref b11, .int 0, .ref b12, .ref b13, .int 0, .int 0, .int 0, .ref b14, .ref b15, .ref b16]) := by rw [eM32]; exact mUp_self _ _ _
  have hQ : ∀ q, M q ≠ none → q ≠ y → M32 q = M q := fun q hq hqy => (by rw [eM32, mUp_ne hqy]; exact hQ q hq hqy)
  have hN : ∀ q, M32 q = none → M q = none := fun q hq => hN q (mUp_none (by rw [← eM32]; exact hq)).2
  refine lv_aload_n hx hb dX10_init_132 rfl (lv_at hl 0 rfl) ?_
  refine lv_iconst (v := -1) hx hb dX10_init_133 (by decide) ?_
  refine m_put (ci := 8) (v := .int (-1)) (ty := .int) (C := RX10) (T := TX10) (N := 21) hx hb hts in_X10_init_X10 tyX10 tyX10_ok nmX10 hown hE hM hS g_y rfl 15 (by decide) (hts (.fieldLink RX10 61 "CallWays2Model" "bound" "I") (by decide +kernel)) (fun _ h9 => h9) rfl (by decide +kernel) rfl rfl (Nat.le_of_ble_eq_true rfl) dX10_init_134 (fun H locs hM hS => ?_)
  have hM : mOK E.1 (mA M sz) (mUp M32 y (mO 8 [.ref b1, .ref b2, .ref b3, .ref b4, .ref b5, .int 0, .ref b6, .ref b7, .ref b8, .ref b9, .ref b10, .ref b11, .int 0, .ref b12, .ref b13, .int (-1), .int 0, .int 0, .ref b14, .ref b15, .ref b16])) H := hM
  obtain ⟨M33, eM33⟩ : ∃ z, z = mUp M32 y (mO 8 [.ref b1, .ref b2, .ref b3, .ref b4, .ref b5, .int 0, .ref b6, .ref b7, .ref b8, .ref b9, .ref b10, .ref b11, .int 0, .ref b12, .ref b13, .int (-1), .int 0, .int 0, .ref b14, .ref b15, .ref b16]) := ⟨_, rfl⟩
  rw [← eM33] at hM
  have g_b1_ : M33 b1 = some (mI E 10 (fun _ => 0)) := by rw [eM33]; exact mUp_at (Ne.symm ne_y_b1) g_b1
  have g_b2_ : M33 b2 = some (mI E 12 (fun _ => 0)) := by rw [eM33]; exact mUp_at (Ne.symm ne_y_b2) g_b2
  have g_b3_ : M33 b3 = some (mI E 24 (fun _ => 0)) := by rw [eM33]; exact mUp_at (Ne.symm ne_y_b3) g_b3
  have g_b4_ : M33 b4 = some (mI E 24 (fun _ => 0)) := by rw [eM33]; exact mUp_at (Ne.symm ne_y_b4) g_b4
  have g_b5_ : M33 b5 = some (mJ E 960 (fun _ => 0)) := by rw [eM33]; exact mUp_at (Ne.symm ne_y_b5) g_b5
  have g_b6_ : M33 b6 = some (mI E 12 (fun _ => 0)) := by rw [eM33]; exact mUp_at (Ne.symm ne_y_b6) g_b6
  have g_b7_ : M33 b7 = some (mI E 48 (fun _ => 0)) := by rw [eM33]; exact mUp_at (Ne.symm ne_y_b7) g_b7
  have g_b8_ : M33 b8 = some (mI E 12 (fun _ => 0)) := by rw [eM33]; exact mUp_at (Ne.symm ne_y_b8) g_b8
  have g_b9_ : M33 b9 = some (mZ E 12 (fun _ => 0)) := by rw [eM33]; exact mUp_at (Ne.symm ne_y_b9) g_b9
  have g_b10_ : M33 b10 = some (mI E 12 (fun _ => 0)) := by rw [eM33]; exact mUp_at (Ne.symm ne_y_b10) g_b10
  have g_b11_ : M33 b11 = some (mDb E 12 (fun _ => 0)) := by rw [eM33]; exact mUp_at (Ne.symm ne_y_b11) g_b11
  have g_b12_ : M33 b12 = some (mI E 8 (fun _ => 0)) := by rw [eM33]; exact mUp_at (Ne.symm ne_y_b12) g_b12
  have g_b13_ : M33 b13 = some (mI E 8 (fun _ => 0)) := by rw [eM33]; exact mUp_at (Ne.symm ne_y_b13) g_b13
  have g_b14_ : M33 b14 = some (mI E 3 (fun _ => 0)) := by rw [eM33]; exact mUp_at (Ne.symm ne_y_b14) g_b14
  have g_b15_ : M33 b15 = some (mDb E 40 (fun _ => 0)) := by rw [eM33]; exact mUp_at (Ne.symm ne_y_b15) g_b15
  have g_b16_ : M33 b16 = some (mJ E 40 (fun _ => 0)) := by rw [eM33]; exact mUp_at (Ne.symm ne_y_b16) g_b16
  have g_b1 := g_b1_
  have g_b2 := g_b2_
  have g_b3 := g_b3_
  have g_b4 := g_b4_
  have g_b5 := g_b5_
  have g_b6 := g_b6_
  have g_b7 := g_b7_
  have g_b8 := g_b8_
  have g_b9 := g_b9_
  have g_b10 := g_b10_
  have g_b11 := g_b11_
  have g_b12 := g_b12_
  have g_b13 := g_b13_
  have g_b14 := g_b14_
  have g_b15 := g_b15_
  have g_b16 := g_b16_
  have g_y : M33 y = some (mO 8 [.ref b1, .ref b2, .ref b3, .ref b4, .ref b5, .int 0, .ref b6, .ref b7, .ref b8, .ref b9, .ref b10, .ref b11, .int 0, .ref b12, .ref b13, .int (-1), .int 0, .int 0, .ref b14, .ref b15, .ref b16]) := by rw [eM33]; exact mUp_self _ _ _
  have hQ : ∀ q, M q ≠ none → q ≠ y → M33 q = M q := fun q hq hqy => (by rw [eM33, mUp_ne hqy]; exact hQ q hq hqy)
  have hN : ∀ q, M33 q = none → M q = none := fun q hq => hN q (mUp_none (by rw [← eM33]; exact hq)).2
  refine lv_iconst (v := 0) hx hb dX10_init_137 (by decide) ?_
  refine lv_istore_n (lv' := [(1, .int 0), (0, .ref y)]) hx hb dX10_init_138 rfl hl (by decide) rfl (fun ls hl => ?_)
  have h0_y := g_y
  have h0_b1 := g_b1
  have h0_b2 := g_b2
  have h0_b3 := g_b3
  have h0_b4 := g_b4
  have h0_b5 := g_b5
  have h0_b6 := g_b6
  have h0_b7 := g_b7
  have h0_b8 := g_b8
  have h0_b9 := g_b9
  have h0_b10 := g_b10
  have h0_b11 := g_b11
  have h0_b12 := g_b12
  have h0_b13 := g_b13
  have h0_b14 := g_b14
  have h0_b15 := g_b15
  have h0_b16 := g_b16
  obtain ⟨MB, eMB⟩ : ∃ z, z = mUp M33 b1 (mI E 10 (mns 10)) := ⟨_, rfl⟩
  have h1_y : MB y = some (mO 8 [.ref b1, .ref b2, .ref b3, .ref b4, .ref b5, .int 0, .ref b6, .ref b7, .ref b8, .ref b9, .ref b10, .ref b11, .int 0, .ref b12, .ref b13, .int (-1), .int 0, .int 0, .ref b14, .ref b15, .ref b16]) := by rw [eMB]; exact mUp_at ne_y_b1 h0_y
  have h1_b2 : MB b2 = some (mI E 12 (fun _ => 0)) := by rw [eMB]; exact mUp_at (Ne.symm ne_b1_b2) h0_b2
  have h1_b3 : MB b3 = some (mI E 24 (fun _ => 0)) := by rw [eMB]; exact mUp_at (Ne.symm ne_b1_b3) h0_b3
  have h1_b4 : MB b4 = some (mI E 24 (fun _ => 0)) := by rw [eMB]; exact mUp_at (Ne.symm ne_b1_b4) h0_b4
  have h1_b5 : MB b5 = some (mJ E 960 (fun _ => 0)) := by rw [eMB]; exact mUp_at (Ne.symm ne_b1_b5) h0_b5
  have h1_b6 : MB b6 = some (mI E 12 (fun _ => 0)) := by rw [eMB]; exact mUp_at (Ne.symm ne_b1_b6) h0_b6
  have h1_b7 : MB b7 = some (mI E 48 (fun _ => 0)) := by rw [eMB]; exact mUp_at (Ne.symm ne_b1_b7) h0_b7
  have h1_b8 : MB b8 = some (mI E 12 (fun _ => 0)) := by rw [eMB]; exact mUp_at (Ne.symm ne_b1_b8) h0_b8
  have h1_b9 : MB b9 = some (mZ E 12 (fun _ => 0)) := by rw [eMB]; exact mUp_at (Ne.symm ne_b1_b9) h0_b9
  have h1_b10 : MB b10 = some (mI E 12 (fun _ => 0)) := by rw [eMB]; exact mUp_at (Ne.symm ne_b1_b10) h0_b10
  have h1_b11 : MB b11 = some (mDb E 12 (fun _ => 0)) := by rw [eMB]; exact mUp_at (Ne.symm ne_b1_b11) h0_b11
  have h1_b12 : MB b12 = some (mI E 8 (fun _ => 0)) := by rw [eMB]; exact mUp_at (Ne.symm ne_b1_b12) h0_b12
  have h1_b13 : MB b13 = some (mI E 8 (fun _ => 0)) := by rw [eMB]; exact mUp_at (Ne.symm ne_b1_b13) h0_b13
  have h1_b14 : MB b14 = some (mI E 3 (fun _ => 0)) := by rw [eMB]; exact mUp_at (Ne.symm ne_b1_b14) h0_b14
  have h1_b15 : MB b15 = some (mDb E 40 (fun _ => 0)) := by rw [eMB]; exact mUp_at (Ne.symm ne_b1_b15) h0_b15
  have h1_b16 : MB b16 = some (mJ E 40 (fun _ => 0)) := by rw [eMB]; exact mUp_at (Ne.symm ne_b1_b16) h0_b16
  have h1_b1 : MB b1 = some (mI E 10 (mns 10)) := by rw [eMB]; exact mUp_self _ _ _
  have hQB : ∀ q, M q ≠ none → q ≠ y → MB q = M q := fun q hq hqy => (by rw [eMB, mUp_ne (fun z => hq (by rw [z]; exact k_b1))]; exact hQ q hq hqy)
  have loop2 : ∀ (n9 : Nat) (k9 : Nat) (Mi : mMem) (ls : Array Slot) (H : Heap) (locs : List Loc), k9 + n9 = 12 → Mi = mUp MB b2 (mI E 12 (mns k9)) → mOK E.1 (mA M sz) Mi H → va_S (mA M sz) s.heap H locs → lv_has ls 2 [(1, .int (nI k9)), (0, .ref y)] → W p l e ({ frames := 1, cells := 16, slots := 1237, locals := 12 } : Room) s m #[.ref y] below meth c H locs (0 + 1 + 1 + 1 + 1 + 1 + 1 + 1 + 1 + 1 + 1 + 1 + 1 + 1 + 1 + 1 + 1) (0 + 10 + 12 + 24 + 24 + 960 + 12 + 48 + 12 + 12 + 12 + 12 + 8 + 8 + 3 + 40 + 40) (MQ below (mQv E M sz (fun u => ∃ b1 b2 b3 b4 b5 b6 b7 b8 b9 b10 b11 b12 b13 b14 b15 b16 : Nat, mR E u y b1 b2 b3 b4 b5 b6 b7 b8 b9 b10 b11 b12 b13 b14 b15 b16 sg0 ∧ [y, b1, b2, b3, b4, b5, b6, b7, b8, b9, b10, b11, b12, b13, b14, b15, b16].Nodup ∧ (∀ z, z ∈ [b1, b2, b3, b4, b5, b6, b7, b8, b9, b10, b11, b12, b13, b14, b15, b16] → M z = none) ∧ ∀ q, M q ≠ none → q ≠ y → u q = M q)) #[.ref y] s (16) (1237) (mA M sz)) (F0 m 160 ls []) := by
    intro n9
    induction n9 with
    | zero =>
      intro k9 Mi ls H locs hk9 eMi hM hS hl
      have g_y : Mi y = some (mO 8 [.ref b1, .ref b2, .ref b3, .ref b4, .ref b5, .int 0, .ref b6, .ref b7, .ref b8, .ref b9, .ref b10, .ref b11, .int 0, .ref b12, .ref b13, .int (-1), .int 0, .int 0, .ref b14, .ref b15, .ref b16]) := by rw [eMi]; exact mUp_at ne_y_b2 h1_y
      have g_b1 : Mi b1 = some (mI E 10 (mns 10)) := by rw [eMi]; exact mUp_at ne_b1_b2 h1_b1
      have g_b3 : Mi b3 = some (mI E 24 (fun _ => 0)) := by rw [eMi]; exact mUp_at (Ne.symm ne_b2_b3) h1_b3
      have g_b4 : Mi b4 = some (mI E 24 (fun _ => 0)) := by rw [eMi]; exact mUp_at (Ne.symm ne_b2_b4) h1_b4
      have g_b5 : Mi b5 = some (mJ E 960 (fun _ => 0)) := by rw [eMi]; exact mUp_at (Ne.symm ne_b2_b5) h1_b5
      have g_b6 : Mi b6 = some (mI E 12 (fun _ => 0)) := by rw [eMi]; exact mUp_at (Ne.symm ne_b2_b6) h1_b6
      have g_b7 : Mi b7 = some (mI E 48 (fun _ => 0)) := by rw [eMi]; exact mUp_at (Ne.symm ne_b2_b7) h1_b7
      have g_b8 : Mi b8 = some (mI E 12 (fun _ => 0)) := by rw [eMi]; exact mUp_at (Ne.symm ne_b2_b8) h1_b8
      have g_b9 : Mi b9 = some (mZ E 12 (fun _ => 0)) := by rw [eMi]; exact mUp_at (Ne.symm ne_b2_b9) h1_b9
      have g_b10 : Mi b10 = some (mI E 12 (fun _ => 0)) := by rw [eMi]; exact mUp_at (Ne.symm ne_b2_b10) h1_b10
      have g_b11 : Mi b11 = some (mDb E 12 (fun _ => 0)) := by rw [eMi]; exact mUp_at (Ne.symm ne_b2_b11) h1_b11
      have g_b12 : Mi b12 = some (mI E 8 (fun _ => 0)) := by rw [eMi]; exact mUp_at (Ne.symm ne_b2_b12) h1_b12
      have g_b13 : Mi b13 = some (mI E 8 (fun _ => 0)) := by rw [eMi]; exact mUp_at (Ne.symm ne_b2_b13) h1_b13
      have g_b14 : Mi b14 = some (mI E 3 (fun _ => 0)) := by rw [eMi]; exact mUp_at (Ne.symm ne_b2_b14) h1_b14
      have g_b15 : Mi b15 = some (mDb E 40 (fun _ => 0)) := by rw [eMi]; exact mUp_at (Ne.symm ne_b2_b15) h1_b15
      have g_b16 : Mi b16 = some (mJ E 40 (fun _ => 0)) := by rw [eMi]; exact mUp_at (Ne.symm ne_b2_b16) h1_b16
      have g_b2 : Mi b2 = some (mI E 12 (mns k9)) := by rw [eMi]; exact mUp_self _ _ _
      refine lv_iload_n hx hb dX10_init_160 rfl (lv_at hl 0 rfl) ?_
      refine lv_bipush (v := 12) hx hb dX10_init_161 (by decide) ?_
      refine lv_icmp_ge (tgt := 179) hx hb dX10_init_163 (by decide) (fun _ => ?_) (fun h9 => False.elim (by revert h9; exact (fun h => h (nI_le (a := 12) (b := k9) (by omega) (by omega)))))
      exact m_vret hx hb hr hlocks hM hS (by show 0 + 1 + 1 + 1 + 1 + 1 + 1 + 1 + 1 + 1 + 1 + 1 + 1 + 1 + 1 + 1 + 1 ≤ 16; omega) (by show 0 + 10 + 12 + 24 + 24 + 960 + 12 + 48 + 12 + 12 + 12 + 12 + 8 + 8 + 3 + 40 + 40 ≤ 1237; omega) dX10_init_179 (by refine ⟨b1, b2, b3, b4, b5, b6, b7, b8, b9, b10, b11, b12, b13, b14, b15, b16, mR0 ⟨g_y, g_b1, (by rw [show mns 12 = mns k9 by rw [show k9 = 12 by omega]]; exact g_b2), g_b3, g_b4, g_b5, g_b6, g_b7, g_b8, g_b9, g_b10, g_b11, g_b12, g_b13, g_b14, g_b15, g_b16⟩, ?_, ?_, ?_⟩; exact (by simp [ne_y_b1, ne_y_b2, ne_y_b3, ne_y_b4, ne_y_b5, ne_y_b6, ne_y_b7, ne_y_b8, ne_y_b9, ne_y_b10, ne_y_b11, ne_y_b12, ne_y_b13, ne_y_b14, ne_y_b15, ne_y_b16, ne_b1_b2, ne_b1_b3, ne_b1_b4, ne_b1_b5, ne_b1_b6, ne_b1_b7, ne_b1_b8, ne_b1_b9, ne_b1_b10, ne_b1_b11, ne_b1_b12, ne_b1_b13, ne_b1_b14, ne_b1_b15, ne_b1_b16, ne_b2_b3, ne_b2_b4, ne_b2_b5, ne_b2_b6, ne_b2_b7, ne_b2_b8, ne_b2_b9, ne_b2_b10, ne_b2_b11, ne_b2_b12, ne_b2_b13, ne_b2_b14, ne_b2_b15, ne_b2_b16, ne_b3_b4, ne_b3_b5, ne_b3_b6, ne_b3_b7, ne_b3_b8, ne_b3_b9, ne_b3_b10, ne_b3_b11, ne_b3_b12, ne_b3_b13, ne_b3_b14, ne_b3_b15, ne_b3_b16, ne_b4_b5, ne_b4_b6, ne_b4_b7, ne_b4_b8, ne_b4_b9, ne_b4_b10, ne_b4_b11, ne_b4_b12, ne_b4_b13, ne_b4_b14, ne_b4_b15, ne_b4_b16, ne_b5_b6, ne_b5_b7, ne_b5_b8, ne_b5_b9, ne_b5_b10, ne_b5_b11, ne_b5_b12, ne_b5_b13, ne_b5_b14, ne_b5_b15, ne_b5_b16, ne_b6_b7, ne_b6_b8, ne_b6_b9, ne_b6_b10, ne_b6_b11, ne_b6_b12, ne_b6_b13, ne_b6_b14, ne_b6_b15, ne_b6_b16, ne_b7_b8, ne_b7_b9, ne_b7_b10, ne_b7_b11, ne_b7_b12, ne_b7_b13, ne_b7_b14, ne_b7_b15, ne_b7_b16, ne_b8_b9, ne_b8_b10, ne_b8_b11, ne_b8_b12, ne_b8_b13, ne_b8_b14, ne_b8_b15, ne_b8_b16, ne_b9_b10, ne_b9_b11, ne_b9_b12, ne_b9_b13, ne_b9_b14, ne_b9_b15, ne_b9_b16, ne_b10_b11, ne_b10_b12, ne_b10_b13, ne_b10_b14, ne_b10_b15, ne_b10_b16, ne_b11_b12, ne_b11_b13, ne_b11_b14, ne_b11_b15, ne_b11_b16, ne_b12_b13, ne_b12_b14, ne_b12_b15, ne_b12_b16, ne_b13_b14, ne_b13_b15, ne_b13_b16, ne_b14_b15, ne_b14_b16, ne_b15_b16]); exact (by intro z hz; simp only [List.mem_cons, List.not_mem_nil, or_false] at hz; rcases hz with hz | hz | hz | hz | hz | hz | hz | hz | hz | hz | hz | hz | hz | hz | hz | hz; exact (by rw [hz]; exact k_b1); exact (by rw [hz]; exact k_b2); exact (by rw [hz]; exact k_b3); exact (by rw [hz]; exact k_b4); exact (by rw [hz]; exact k_b5); exact (by rw [hz]; exact k_b6); exact (by rw [hz]; exact k_b7); exact (by rw [hz]; exact k_b8); exact (by rw [hz]; exact k_b9); exact (by rw [hz]; exact k_b10); exact (by rw [hz]; exact k_b11); exact (by rw [hz]; exact k_b12); exact (by rw [hz]; exact k_b13); exact (by rw [hz]; exact k_b14); exact (by rw [hz]; exact k_b15); exact (by rw [hz]; exact k_b16)); exact fun q hq hqy => (by rw [eMi, mUp_ne (fun z => hq (by rw [z]; exact k_b2))]; exact hQB q hq hqy))
    | succ n9 ih =>
      intro k9 Mi ls H locs hk9 eMi hM hS hl
      have g_y : Mi y = some (mO 8 [.ref b1, .ref b2, .ref b3, .ref b4, .ref b5, .int 0, .ref b6, .ref b7, .ref b8, .ref b9, .ref b10, .ref b11, .int 0, .ref b12, .ref b13, .int (-1), .int 0, .int 0, .ref b14, .ref b15, .ref b16]) := by rw [eMi]; exact mUp_at ne_y_b2 h1_y
      have g_b1 : Mi b1 = some (mI E 10 (mns 10)) := by rw [eMi]; exact mUp_at ne_b1_b2 h1_b1
      have g_b3 : Mi b3 = some (mI E 24 (fun _ => 0)) := by rw [eMi]; exact mUp_at (Ne.symm ne_b2_b3) h1_b3
      have g_b4 : Mi b4 = some (mI E 24 (fun _ => 0)) := by rw [eMi]; exact mUp_at (Ne.symm ne_b2_b4) h1_b4
      have g_b5 : Mi b5 = some (mJ E 960 (fun _ => 0)) := by rw [eMi]; exact mUp_at (Ne.symm ne_b2_b5) h1_b5
      have g_b6 : Mi b6 = some (mI E 12 (fun _ => 0)) := by rw [eMi]; exact mUp_at (Ne.symm ne_b2_b6) h1_b6
      have g_b7 : Mi b7 = some (mI E 48 (fun _ => 0)) := by rw [eMi]; exact mUp_at (Ne.symm ne_b2_b7) h1_b7
      have g_b8 : Mi b8 = some (mI E 12 (fun _ => 0)) := by rw [eMi]; exact mUp_at (Ne.symm ne_b2_b8) h1_b8
      have g_b9 : Mi b9 = some (mZ E 12 (fun _ => 0)) := by rw [eMi]; exact mUp_at (Ne.symm ne_b2_b9) h1_b9
      have g_b10 : Mi b10 = some (mI E 12 (fun _ => 0)) := by rw [eMi]; exact mUp_at (Ne.symm ne_b2_b10) h1_b10
      have g_b11 : Mi b11 = some (mDb E 12 (fun _ => 0)) := by rw [eMi]; exact mUp_at (Ne.symm ne_b2_b11) h1_b11
      have g_b12 : Mi b12 = some (mI E 8 (fun _ => 0)) := by rw [eMi]; exact mUp_at (Ne.symm ne_b2_b12) h1_b12
      have g_b13 : Mi b13 = some (mI E 8 (fun _ => 0)) := by rw [eMi]; exact mUp_at (Ne.symm ne_b2_b13) h1_b13
      have g_b14 : Mi b14 = some (mI E 3 (fun _ => 0)) := by rw [eMi]; exact mUp_at (Ne.symm ne_b2_b14) h1_b14
      have g_b15 : Mi b15 = some (mDb E 40 (fun _ => 0)) := by rw [eMi]; exact mUp_at (Ne.symm ne_b2_b15) h1_b15
      have g_b16 : Mi b16 = some (mJ E 40 (fun _ => 0)) := by rw [eMi]; exact mUp_at (Ne.symm ne_b2_b16) h1_b16
      have g_b2 : Mi b2 = some (mI E 12 (mns k9)) := by rw [eMi]; exact mUp_self _ _ _
      refine lv_iload_n hx hb dX10_init_160 rfl (lv_at hl 0 rfl) ?_
      refine lv_bipush (v := 12) hx hb dX10_init_161 (by decide) ?_
      refine lv_icmp_ge (tgt := 179) hx hb dX10_init_163 (by decide) (fun h9 => False.elim (by revert h9; exact (fun h => absurd h (nI_ge (a := k9) (b := 12) (by omega) (by omega))))) (fun _ => ?_)
      refine lv_aload_n hx hb dX10_init_166 rfl (lv_at hl 1 rfl) ?_
      refine m_get (ci := 8) (v := .ref b2) (C := RX10) (T := TX10) (N := 21) hx hb hts in_X10_init_X10 hown hE hM g_y rfl 1 (by decide) (hts (.fieldLink RX10 13 "CallWays2Model" "tables" "[I") (by decide +kernel)) (fun _ h9 => h9) rfl dX10_init_167 ?_
      refine lv_iload_n hx hb dX10_init_170 rfl (lv_at hl 0 rfl) ?_
      refine lv_iconst (v := -1) hx hb dX10_init_171 (by decide) ?_
      refine m_iast hx hb hE hM hS g_b2 (vp_in_nI (by omega) (by decide)) dX10_init_172 (fun H locs hM hS => ?_)
      rw [show upd (mns k9) (nI k9).toNatClampNeg (-1) = mns (k9 + 1) from by rw [nI_clamp (by omega)]; exact mns_s k9] at hM
      have hM : mOK E.1 (mA M sz) (mUp Mi b2 (mI E 12 (mns (k9 + 1)))) H := hM
      obtain ⟨M34, eM34⟩ : ∃ z, z = mUp Mi b2 (mI E 12 (mns (k9 + 1))) := ⟨_, rfl⟩
      rw [← eM34] at hM
      have g_y_ : M34 y = some (mO 8 [.ref b1, .ref b2, .ref b3, .ref b4, .ref b5, .int 0, .ref b6, .ref b7, .ref b8, .ref b9, .ref b10, .ref b11, .int 0, .ref b12, .ref b13, .int (-1), .int 0, .int 0, .ref b14, .ref b15, .ref b16]) := by rw [eM34]; exact mUp_at ne_y_b2 g_y
      have g_b1_ : M34 b1 = some (mI E 10 (mns 10)) := by rw [eM34]; exact mUp_at ne_b1_b2 g_b1
      have g_b3_ : M34 b3 = some (mI E 24 (fun _ => 0)) := by rw [eM34]; exact mUp_at (Ne.symm ne_b2_b3) g_b3
      have g_b4_ : M34 b4 = some (mI E 24 (fun _ => 0)) := by rw [eM34]; exact mUp_at (Ne.symm ne_b2_b4) g_b4
      have g_b5_ : M34 b5 = some (mJ E 960 (fun _ => 0)) := by rw [eM34]; exact mUp_at (Ne.symm ne_b2_b5) g_b5
      have g_b6_ : M34 b6 = some (mI E 12 (fun _ => 0)) := by rw [eM34]; exact mUp_at (Ne.symm ne_b2_b6) g_b6
      have g_b7_ : M34 b7 = some (mI E 48 (fun _ => 0)) := by rw [eM34]; exact mUp_at (Ne.symm ne_b2_b7) g_b7
      have g_b8_ : M34 b8 = some (mI E 12 (fun _ => 0)) := by rw [eM34]; exact mUp_at (Ne.symm ne_b2_b8) g_b8
      have g_b9_ : M34 b9 = some (mZ E 12 (fun _ => 0)) := by rw [eM34]; exact mUp_at (Ne.symm ne_b2_b9) g_b9
      have g_b10_ : M34 b10 = some (mI E 12 (fun _ => 0)) := by rw [eM34]; exact mUp_at (Ne.symm ne_b2_b10) g_b10
      have g_b11_ : M34 b11 = some (mDb E 12 (fun _ => 0)) := by rw [eM34]; exact mUp_at (Ne.symm ne_b2_b11) g_b11
      have g_b12_ : M34 b12 = some (mI E 8 (fun _ => 0)) := by rw [eM34]; exact mUp_at (Ne.symm ne_b2_b12) g_b12
      have g_b13_ : M34 b13 = some (mI E 8 (fun _ => 0)) := by rw [eM34]; exact mUp_at (Ne.symm ne_b2_b13) g_b13
      have g_b14_ : M34 b14 = some (mI E 3 (fun _ => 0)) := by rw [eM34]; exact mUp_at (Ne.symm ne_b2_b14) g_b14
      have g_b15_ : M34 b15 = some (mDb E 40 (fun _ => 0)) := by rw [eM34]; exact mUp_at (Ne.symm ne_b2_b15) g_b15
      have g_b16_ : M34 b16 = some (mJ E 40 (fun _ => 0)) := by rw [eM34]; exact mUp_at (Ne.symm ne_b2_b16) g_b16
      have g_y := g_y_
      have g_b1 := g_b1_
      have g_b3 := g_b3_
      have g_b4 := g_b4_
      have g_b5 := g_b5_
      have g_b6 := g_b6_
      have g_b7 := g_b7_
      have g_b8 := g_b8_
      have g_b9 := g_b9_
      have g_b10 := g_b10_
      have g_b11 := g_b11_
      have g_b12 := g_b12_
      have g_b13 := g_b13_
      have g_b14 := g_b14_
      have g_b15 := g_b15_
      have g_b16 := g_b16_
      have g_b2 : M34 b2 = some (mI E 12 (mns (k9 + 1))) := by rw [eM34]; exact mUp_self _ _ _
      refine lv_iinc (v := ((nI k9) + 1)) (lv' := [(1, .int ((nI k9) + 1)), (0, .ref y)]) hx hb dX10_init_173 hl (k := 0) rfl rfl (by decide) rfl (fun ls hl => ?_)
      refine lv_goto (tgt := 160) hx hb dX10_init_176 (by decide) ?_
      rw [nI_1] at hl
      exact ih (k9 + 1) M34 ls _ _ (by omega) (by rw [eM34, eMi, mUp_up]) hM hS (lv_sub hl [0, 1] rfl)
  have loop1 : ∀ (n9 : Nat) (k9 : Nat) (Mi : mMem) (ls : Array Slot) (H : Heap) (locs : List Loc), k9 + n9 = 10 → Mi = mUp M33 b1 (mI E 10 (mns k9)) → mOK E.1 (mA M sz) Mi H → va_S (mA M sz) s.heap H locs → lv_has ls 2 [(1, .int (nI k9)), (0, .ref y)] → W p l e ({ frames := 1, cells := 16, slots := 1237, locals := 12 } : Room) s m #[.ref y] below meth c H locs (0 + 1 + 1 + 1 + 1 + 1 + 1 + 1 + 1 + 1 + 1 + 1 + 1 + 1 + 1 + 1 + 1) (0 + 10 + 12 + 24 + 24 + 960 + 12 + 48 + 12 + 12 + 12 + 12 + 8 + 8 + 3 + 40 + 40) (MQ below (mQv E M sz (fun u => ∃ b1 b2 b3 b4 b5 b6 b7 b8 b9 b10 b11 b12 b13 b14 b15 b16 : Nat, mR E u y b1 b2 b3 b4 b5 b6 b7 b8 b9 b10 b11 b12 b13 b14 b15 b16 sg0 ∧ [y, b1, b2, b3, b4, b5, b6, b7, b8, b9, b10, b11, b12, b13, b14, b15, b16].Nodup ∧ (∀ z, z ∈ [b1, b2, b3, b4, b5, b6, b7, b8, b9, b10, b11, b12, b13, b14, b15, b16] → M z = none) ∧ ∀ q, M q ≠ none → q ≠ y → u q = M q)) #[.ref y] s (16) (1237) (mA M sz)) (F0 m 139 ls []) := by
    intro n9
    induction n9 with
    | zero =>
      intro k9 Mi ls H locs hk9 eMi hM hS hl
      have g_y : Mi y = some (mO 8 [.ref b1, .ref b2, .ref b3, .ref b4, .ref b5, .int 0, .ref b6, .ref b7, .ref b8, .ref b9, .ref b10, .ref b11, .int 0, .ref b12, .ref b13, .int (-1), .int 0, .int 0, .ref b14, .ref b15, .ref b16]) := by rw [eMi]; exact mUp_at ne_y_b1 h0_y
      have g_b2 : Mi b2 = some (mI E 12 (fun _ => 0)) := by rw [eMi]; exact mUp_at (Ne.symm ne_b1_b2) h0_b2
      have g_b3 : Mi b3 = some (mI E 24 (fun _ => 0)) := by rw [eMi]; exact mUp_at (Ne.symm ne_b1_b3) h0_b3
      have g_b4 : Mi b4 = some (mI E 24 (fun _ => 0)) := by rw [eMi]; exact mUp_at (Ne.symm ne_b1_b4) h0_b4
      have g_b5 : Mi b5 = some (mJ E 960 (fun _ => 0)) := by rw [eMi]; exact mUp_at (Ne.symm ne_b1_b5) h0_b5
      have g_b6 : Mi b6 = some (mI E 12 (fun _ => 0)) := by rw [eMi]; exact mUp_at (Ne.symm ne_b1_b6) h0_b6
      have g_b7 : Mi b7 = some (mI E 48 (fun _ => 0)) := by rw [eMi]; exact mUp_at (Ne.symm ne_b1_b7) h0_b7
      have g_b8 : Mi b8 = some (mI E 12 (fun _ => 0)) := by rw [eMi]; exact mUp_at (Ne.symm ne_b1_b8) h0_b8
      have g_b9 : Mi b9 = some (mZ E 12 (fun _ => 0)) := by rw [eMi]; exact mUp_at (Ne.symm ne_b1_b9) h0_b9
      have g_b10 : Mi b10 = some (mI E 12 (fun _ => 0)) := by rw [eMi]; exact mUp_at (Ne.symm ne_b1_b10) h0_b10
      have g_b11 : Mi b11 = some (mDb E 12 (fun _ => 0)) := by rw [eMi]; exact mUp_at (Ne.symm ne_b1_b11) h0_b11
      have g_b12 : Mi b12 = some (mI E 8 (fun _ => 0)) := by rw [eMi]; exact mUp_at (Ne.symm ne_b1_b12) h0_b12
      have g_b13 : Mi b13 = some (mI E 8 (fun _ => 0)) := by rw [eMi]; exact mUp_at (Ne.symm ne_b1_b13) h0_b13
      have g_b14 : Mi b14 = some (mI E 3 (fun _ => 0)) := by rw [eMi]; exact mUp_at (Ne.symm ne_b1_b14) h0_b14
      have g_b15 : Mi b15 = some (mDb E 40 (fun _ => 0)) := by rw [eMi]; exact mUp_at (Ne.symm ne_b1_b15) h0_b15
      have g_b16 : Mi b16 = some (mJ E 40 (fun _ => 0)) := by rw [eMi]; exact mUp_at (Ne.symm ne_b1_b16) h0_b16
      have g_b1 : Mi b1 = some (mI E 10 (mns k9)) := by rw [eMi]; exact mUp_self _ _ _
      refine lv_iload_n hx hb dX10_init_139 rfl (lv_at hl 0 rfl) ?_
      refine lv_bipush (v := 10) hx hb dX10_init_140 (by decide) ?_
      refine lv_icmp_ge (tgt := 158) hx hb dX10_init_142 (by decide) (fun _ => ?_) (fun h9 => False.elim (by revert h9; exact (fun h => h (nI_le (a := 10) (b := k9) (by omega) (by omega)))))
      refine lv_iconst (v := 0) hx hb dX10_init_158 (by decide) ?_
      refine lv_istore_n (lv' := [(1, .int 0), (0, .ref y)]) hx hb dX10_init_159 rfl hl (by decide) rfl (fun ls hl => ?_)
      exact loop2 12 0 Mi ls _ _ (by omega) (by rw [mns_0, mUp_id (show MB b2 = some (mI E 12 (fun _ => 0)) from h1_b2), eMi, eMB, show k9 = 10 by omega]) hM hS (lv_sub hl [0, 1] rfl)
    | succ n9 ih =>
      intro k9 Mi ls H locs hk9 eMi hM hS hl
      have g_y : Mi y = some (mO 8 [.ref b1, .ref b2, .ref b3, .ref b4, .ref b5, .int 0, .ref b6, .ref b7, .ref b8, .ref b9, .ref b10, .ref b11, .int 0, .ref b12, .ref b13, .int (-1), .int 0, .int 0, .ref b14, .ref b15, .ref b16]) := by rw [eMi]; exact mUp_at ne_y_b1 h0_y
      have g_b2 : Mi b2 = some (mI E 12 (fun _ => 0)) := by rw [eMi]; exact mUp_at (Ne.symm ne_b1_b2) h0_b2
      have g_b3 : Mi b3 = some (mI E 24 (fun _ => 0)) := by rw [eMi]; exact mUp_at (Ne.symm ne_b1_b3) h0_b3
      have g_b4 : Mi b4 = some (mI E 24 (fun _ => 0)) := by rw [eMi]; exact mUp_at (Ne.symm ne_b1_b4) h0_b4
      have g_b5 : Mi b5 = some (mJ E 960 (fun _ => 0)) := by rw [eMi]; exact mUp_at (Ne.symm ne_b1_b5) h0_b5
      have g_b6 : Mi b6 = some (mI E 12 (fun _ => 0)) := by rw [eMi]; exact mUp_at (Ne.symm ne_b1_b6) h0_b6
      have g_b7 : Mi b7 = some (mI E 48 (fun _ => 0)) := by rw [eMi]; exact mUp_at (Ne.symm ne_b1_b7) h0_b7
      have g_b8 : Mi b8 = some (mI E 12 (fun _ => 0)) := by rw [eMi]; exact mUp_at (Ne.symm ne_b1_b8) h0_b8
      have g_b9 : Mi b9 = some (mZ E 12 (fun _ => 0)) := by rw [eMi]; exact mUp_at (Ne.symm ne_b1_b9) h0_b9
      have g_b10 : Mi b10 = some (mI E 12 (fun _ => 0)) := by rw [eMi]; exact mUp_at (Ne.symm ne_b1_b10) h0_b10
      have g_b11 : Mi b11 = some (mDb E 12 (fun _ => 0)) := by rw [eMi]; exact mUp_at (Ne.symm ne_b1_b11) h0_b11
      have g_b12 : Mi b12 = some (mI E 8 (fun _ => 0)) := by rw [eMi]; exact mUp_at (Ne.symm ne_b1_b12) h0_b12
      have g_b13 : Mi b13 = some (mI E 8 (fun _ => 0)) := by rw [eMi]; exact mUp_at (Ne.symm ne_b1_b13) h0_b13
      have g_b14 : Mi b14 = some (mI E 3 (fun _ => 0)) := by rw [eMi]; exact mUp_at (Ne.symm ne_b1_b14) h0_b14
      have g_b15 : Mi b15 = some (mDb E 40 (fun _ => 0)) := by rw [eMi]; exact mUp_at (Ne.symm ne_b1_b15) h0_b15
      have g_b16 : Mi b16 = some (mJ E 40 (fun _ => 0)) := by rw [eMi]; exact mUp_at (Ne.symm ne_b1_b16) h0_b16
      have g_b1 : Mi b1 = some (mI E 10 (mns k9)) := by rw [eMi]; exact mUp_self _ _ _
      refine lv_iload_n hx hb dX10_init_139 rfl (lv_at hl 0 rfl) ?_
      refine lv_bipush (v := 10) hx hb dX10_init_140 (by decide) ?_
      refine lv_icmp_ge (tgt := 158) hx hb dX10_init_142 (by decide) (fun h9 => False.elim (by revert h9; exact (fun h => absurd h (nI_ge (a := k9) (b := 10) (by omega) (by omega))))) (fun _ => ?_)
      refine lv_aload_n hx hb dX10_init_145 rfl (lv_at hl 1 rfl) ?_
      refine m_get (ci := 8) (v := .ref b1) (C := RX10) (T := TX10) (N := 21) hx hb hts in_X10_init_X10 hown hE hM g_y rfl 0 (by decide) (hts (.fieldLink RX10 7 "CallWays2Model" "blocks" "[I") (by decide +kernel)) (fun _ h9 => h9) rfl dX10_init_146 ?_
      refine lv_iload_n hx hb dX10_init_149 rfl (lv_at hl 0 rfl) ?_
      refine lv_iconst (v := -1) hx hb dX10_init_150 (by decide) ?_
      refine m_iast hx hb hE hM hS g_b1 (vp_in_nI (by omega) (by decide)) dX10_init_151 (fun H locs hM hS => ?_)
      rw [show upd (mns k9) (nI k9).toNatClampNeg (-1) = mns (k9 + 1) from by rw [nI_clamp (by omega)]; exact mns_s k9] at hM
      have hM : mOK E.1 (mA M sz) (mUp Mi b1 (mI E 10 (mns (k9 + 1)))) H := hM
      obtain ⟨M35, eM35⟩ : ∃ z, z = mUp Mi b1 (mI E 10 (mns (k9 + 1))) := ⟨_, rfl⟩
      rw [← eM35] at hM
      have g_y_ : M35 y = some (mO 8 [.ref b1, .ref b2, .ref b3, .ref b4, .ref b5, .int 0, .ref b6, .ref b7, .ref b8, .ref b9, .ref b10, .ref b11, .int 0, .ref b12, .ref b13, .int (-1), .int 0, .int 0, .ref b14, .ref b15, .ref b16]) := by rw [eM35]; exact mUp_at ne_y_b1 g_y
      have g_b2_ : M35 b2 = some (mI E 12 (fun _ => 0)) := by rw [eM35]; exact mUp_at (Ne.symm ne_b1_b2) g_b2
      have g_b3_ : M35 b3 = some (mI E 24 (fun _ => 0)) := by rw [eM35]; exact mUp_at (Ne.symm ne_b1_b3) g_b3
      have g_b4_ : M35 b4 = some (mI E 24 (fun _ => 0)) := by rw [eM35]; exact mUp_at (Ne.symm ne_b1_b4) g_b4
      have g_b5_ : M35 b5 = some (mJ E 960 (fun _ => 0)) := by rw [eM35]; exact mUp_at (Ne.symm ne_b1_b5) g_b5
      have g_b6_ : M35 b6 = some (mI E 12 (fun _ => 0)) := by rw [eM35]; exact mUp_at (Ne.symm ne_b1_b6) g_b6
      have g_b7_ : M35 b7 = some (mI E 48 (fun _ => 0)) := by rw [eM35]; exact mUp_at (Ne.symm ne_b1_b7) g_b7
      have g_b8_ : M35 b8 = some (mI E 12 (fun _ => 0)) := by rw [eM35]; exact mUp_at (Ne.symm ne_b1_b8) g_b8
      have g_b9_ : M35 b9 = some (mZ E 12 (fun _ => 0)) := by rw [eM35]; exact mUp_at (Ne.symm ne_b1_b9) g_b9
      have g_b10_ : M35 b10 = some (mI E 12 (fun _ => 0)) := by rw [eM35]; exact mUp_at (Ne.symm ne_b1_b10) g_b10
      have g_b11_ : M35 b11 = some (mDb E 12 (fun _ => 0)) := by rw [eM35]; exact mUp_at (Ne.symm ne_b1_b11) g_b11
      have g_b12_ : M35 b12 = some (mI E 8 (fun _ => 0)) := by rw [eM35]; exact mUp_at (Ne.symm ne_b1_b12) g_b12
      have g_b13_ : M35 b13 = some (mI E 8 (fun _ => 0)) := by rw [eM35]; exact mUp_at (Ne.symm ne_b1_b13) g_b13
      have g_b14_ : M35 b14 = some (mI E 3 (fun _ => 0)) := by rw [eM35]; exact mUp_at (Ne.symm ne_b1_b14) g_b14
      have g_b15_ : M35 b15 = some (mDb E 40 (fun _ => 0)) := by rw [eM35]; exact mUp_at (Ne.symm ne_b1_b15) g_b15
      have g_b16_ : M35 b16 = some (mJ E 40 (fun _ => 0)) := by rw [eM35]; exact mUp_at (Ne.symm ne_b1_b16) g_b16
      have g_y := g_y_
      have g_b2 := g_b2_
      have g_b3 := g_b3_
      have g_b4 := g_b4_
      have g_b5 := g_b5_
      have g_b6 := g_b6_
      have g_b7 := g_b7_
      have g_b8 := g_b8_
      have g_b9 := g_b9_
      have g_b10 := g_b10_
      have g_b11 := g_b11_
      have g_b12 := g_b12_
      have g_b13 := g_b13_
      have g_b14 := g_b14_
      have g_b15 := g_b15_
      have g_b16 := g_b16_
      have g_b1 : M35 b1 = some (mI E 10 (mns (k9 + 1))) := by rw [eM35]; exact mUp_self _ _ _
      refine lv_iinc (v := ((nI k9) + 1)) (lv' := [(1, .int ((nI k9) + 1)), (0, .ref y)]) hx hb dX10_init_152 hl (k := 0) rfl rfl (by decide) rfl (fun ls hl => ?_)
      refine lv_goto (tgt := 139) hx hb dX10_init_155 (by decide) ?_
      rw [nI_1] at hl
      exact ih (k9 + 1) M35 ls _ _ (by omega) (by rw [eM35, eMi, mUp_up]) hM hS (lv_sub hl [0, 1] rfl)
  exact loop1 10 0 M33 ls _ _ (by omega) (by rw [mns_0, mUp_id (show M33 b1 = some (mI E 10 (fun _ => 0)) from h0_b1)]) hM hS (lv_sub hl [0, 1] rfl)
