/-- the state of a new object -/
def sg0 : Sg := (0, (fun _ => (6, (fun _ => 0), 0, 0, 0, 0, none)), 0, (fun _ => (0, 0)), (fun _ => none), (fun _ => (0, 0, (fun _ => 0))), -1, 0, 0, 0, 0)
theorem cR0 {E : mEnv} {M : mMem} {NO : Nat → Prop} {x a1 a2 a3 a4 : Nat} (g_x : M x = some (xCell a1 a2 a3 a4 0 0 (-1) 0 0 0 0)) (g1 : M a1 = some (mQ E 4 12 (fun _ => none))) (g2 : M a2 = some (mQ E 5 10 (fun _ => none))) (g3 : M a3 = some (mQ E 6 8 (fun _ => none))) (g4 : M a4 = some (mDb E 40 (fun _ => 0))) (hn : ¬ NO x ∧ ¬ NO a1 ∧ ¬ NO a2 ∧ ¬ NO a3 ∧ ¬ NO a4) : cRep E M NO x sg0 := by
  have hl : ∀ r, ¬ live 0 (fun _ => ((6, (fun _ => 0), 0, 0, 0, 0, none) : sIn)) (fun _ => none) r := by
    rintro r (⟨k, _, h⟩ | ⟨i, h, _⟩)
    · cases h
    · omega
  exact ⟨a1, a2, a3, a4, (fun _ => none), (fun _ => none), (fun _ => none), (fun _ => 0), (fun _ => 0), (fun _ => 0), (fun _ => 0), (fun _ => 0), (fun _ => 0), (fun _ => 0), (fun _ => False), ⟨g_x, g1, g2, g3, g4⟩, fun i hi => absurd hi (by omega), fun i hi => absurd hi (by omega), fun _ _ => rfl, fun r hr => hl r hr, fun r hr => hr.elim, ⟨fun i j hi => absurd hi (by omega), fun i j hi => absurd hi (by omega), fun r q hr => hr.elim, fun r q hr => hr.elim⟩, hn, fun i hi => absurd hi (by omega), fun i hi => absurd hi (by omega), fun r hr => hr.elim⟩
theorem in_X9_init_X9 : ∀ w ∈ wsX90, w ∈ wsX9_init := by decide +kernel
set_option maxHeartbeats 4000000 in
set_option maxRecDepth 100000 in
theorem c_X9_init (l : Launch) (E : mEnv) (M : mMem) (sz : Nat) (NO : Nat → Prop) (x : Nat) (hO : ∀ q, NO q → M q ≠ none) (hx0 : ¬ NO x) (g_x : M x = some (mO 7 [.null, .null, .null, .null, .int 0, .int 0, .int 0, .int 0, .int 0, .int 0, .int 0]))  : Met l yX9_init wsX9_init ({ frames := 1, cells := 4, slots := 70, locals := 12 }) (mPre E M sz [.ref x]) (mQv E M sz (fun u => cRep E u NO x sg0 ∧ kept NO M u)) (4) (70) (mA M sz) := by
  refine m_met [.ref x] (by decide) rfl (Nat.le_of_ble_eq_true rfl) ?_
  intro p e s m below meth c ls H eH hx hb hr hts hown hlocks hnm hml hsz hE hM hS hA hl
  have hl : lv_has ls 1 [(0, .ref x)] := hl
  refine lv_aload_n hx hb dX9_init_0 rfl (lv_at hl 0 rfl) ?_
  refine W.objInit hx hb hown (hts (.methodLink RX9 1 objectInit) (by decide +kernel)) (hts (.instanceMethod objectInit) (by decide +kernel)) (hts (.code objectInit ⟨#[0xb1]⟩ 1 none) (by decide +kernel)) rfl (by rw [hml]; exact hl.1) rfl dX9_init_1 (Nat.le_of_ble_eq_true rfl) (Nat.le_of_ble_eq_true rfl) ?_
  refine W.eq (g2 := F0 m 4 ls []) rfl ?_
  refine lv_aload_n hx hb dX9_init_4 rfl (lv_at hl 0 rfl) ?_
  refine lv_bipush (v := 12) hx hb dX9_init_5 (by decide) ?_
  refine m_newq (C := "CallWays2$Instrument") (N' := 12) hx hb hown (hts (.classLink RX9 9 "CallWays2$Instrument") (by decide +kernel)) hE (by decide) hM hS hA 4 (by show 4 < 7; decide) rfl (by decide) (by decide) (by decide) (by show 0 + 1 ≤ 4; omega) (by show 0 + 12 ≤ 70; omega) dX9_init_7 (fun a1 H n_a1 hM hS => ?_)
  have hM : mOK E.1 (mA M sz) (mUp M a1 (mQ E 4 12 (fun _ => none))) H := hM
  obtain ⟨M1, eM1⟩ : ∃ z, z = mUp M a1 (mQ E 4 12 (fun _ => none)) := ⟨_, rfl⟩
  rw [← eM1] at hM
  have g_x : M1 x = some (mO 7 [.null, .null, .null, .null, .int 0, .int 0, .int 0, .int 0, .int 0, .int 0, .int 0]) := by rw [eM1]; exact mUp_at (m_neN g_x n_a1) g_x
  have g_a1 : M1 a1 = some (mQ E 4 12 (fun _ => none)) := by rw [eM1]; exact mUp_self _ _ _
  refine m_putF (ci := 7) (v := .ref a1) (ty := .array (.object "CallWays2$Instrument")) (C := RX9) (T := TX9) (N := 11) hx hb hts in_X9_init_X9 tyX9 tyX9_ok nmX9 hown hE hM hS g_x rfl 0 (by decide) (hts (.fieldLink RX9 11 "CallWays2" "instruments" "[LCallWays2$Instrument;") (by decide +kernel)) (fun _ h9 => h9) rfl hnm rfl (by decide +kernel) rfl rfl (Nat.le_of_ble_eq_true rfl) dX9_init_10 (fun H locs hM hS => ?_)
  have hM : mOK E.1 (mA M sz) (mUp M1 x (mO 7 [.ref a1, .null, .null, .null, .int 0, .int 0, .int 0, .int 0, .int 0, .int 0, .int 0])) H := hM
  obtain ⟨M2, eM2⟩ : ∃ z, z = mUp M1 x (mO 7 [.ref a1, .null, .null, .null, .int 0, .int 0, .int 0, .int 0, .int 0, .int 0, .int 0]) := ⟨_, rfl⟩
  rw [← eM2] at hM
  have g_a1_ : M2 a1 = some (mQ E 4 12 (fun _ => none)) := by rw [eM2]; exact mUp_at (m_ne g_a1 g_x (by simp)) g_a1
  have g_a1 := g_a1_
  have g_x : M2 x = some (mO 7 [.ref a1, .null, .null, .null, .int 0, .int 0, .int 0, .int 0, .int 0, .int 0, .int 0]) := by rw [eM2]; exact mUp_self _ _ _
  refine lv_aload_n hx hb dX9_init_13 rfl (lv_at hl 0 rfl) ?_
  refine lv_bipush (v := 10) hx hb dX9_init_14 (by decide) ?_
  refine m_newq (C := "CallWays2$Samples") (N' := 10) hx hb hown (hts (.classLink RX9 15 "CallWays2$Samples") (by decide +kernel)) hE (by decide) hM hS hA 5 (by show 5 < 7; decide) rfl (by decide) (by decide) (by decide) (by show 0 + 1 + 1 ≤ 4; omega) (by show 0 + 12 + 10 ≤ 70; omega) dX9_init_16 (fun a2 H n_a2 hM hS => ?_)
  have hM : mOK E.1 (mA M sz) (mUp M2 a2 (mQ E 5 10 (fun _ => none))) H := hM
  obtain ⟨M3, eM3⟩ : ∃ z, z = mUp M2 a2 (mQ E 5 10 (fun _ => none)) := ⟨_, rfl⟩
  rw [← eM3] at hM
  have g_x : M3 x = some (mO 7 [.ref a1, .null, .null, .null, .int 0, .int 0, .int 0, .int 0, .int 0, .int 0, .int 0]) := by rw [eM3]; exact mUp_at (m_neN g_x n_a2) g_x
  have g_a1 : M3 a1 = some (mQ E 4 12 (fun _ => none)) := by rw [eM3]; exact mUp_at (m_neN g_a1 n_a2) g_a1
  have g_a2 : M3 a2 = some (mQ E 5 10 (fun _ => none)) := by rw [eM3]; exact mUp_self _ _ _
  refine m_putF (ci := 7) (v := .ref a2) (ty := .array (.object "CallWays2$Samples")) (C := RX9) (T := TX9) (N := 11) hx hb hts in_X9_init_X9 tyX9 tyX9_ok nmX9 hown hE hM hS g_x rfl 1 (by decide) (hts (.fieldLink RX9 17 "CallWays2" "blocks" "[LCallWays2$Samples;") (by decide +kernel)) (fun _ h9 => h9) rfl hnm rfl (by decide +kernel) rfl rfl (Nat.le_of_ble_eq_true rfl) dX9_init_19 (fun H locs hM hS => ?_)
  have hM : mOK E.1 (mA M sz) (mUp M3 x (mO 7 [.ref a1, .ref a2, .null, .null, .int 0, .int 0, .int 0, .int 0, .int 0, .int 0, .int 0])) H := hM
  obtain ⟨M4, eM4⟩ : ∃ z, z = mUp M3 x (mO 7 [.ref a1, .ref a2, .null, .null, .int 0, .int 0, .int 0, .int 0, .int 0, .int 0, .int 0]) := ⟨_, rfl⟩
  rw [← eM4] at hM
  have g_a1_ : M4 a1 = some (mQ E 4 12 (fun _ => none)) := by rw [eM4]; exact mUp_at (m_ne g_a1 g_x (by simp)) g_a1
  have g_a2_ : M4 a2 = some (mQ E 5 10 (fun _ => none)) := by rw [eM4]; exact mUp_at (m_ne g_a2 g_x (by simp)) g_a2
  have g_a1 := g_a1_
  have g_a2 := g_a2_
  have g_x : M4 x = some (mO 7 [.ref a1, .ref a2, .null, .null, .int 0, .int 0, .int 0, .int 0, .int 0, .int 0, .int 0]) := by rw [eM4]; exact mUp_self _ _ _
  refine lv_aload_n hx hb dX9_init_22 rfl (lv_at hl 0 rfl) ?_
  refine lv_bipush (v := 8) hx hb dX9_init_23 (by decide) ?_
  refine m_newq (C := "CallWays2$Function") (N' := 8) hx hb hown (hts (.classLink RX9 21 "CallWays2$Function") (by decide +kernel)) hE (by decide) hM hS hA 6 (by show 6 < 7; decide) rfl (by decide) (by decide) (by decide) (by show 0 + 1 + 1 + 1 ≤ 4; omega) (by show 0 + 12 + 10 + 8 ≤ 70; omega) dX9_init_25 (fun a3 H n_a3 hM hS => ?_)
  have hM : mOK E.1 (mA M sz) (mUp M4 a3 (mQ E 6 8 (fun _ => none))) H := hM
  obtain ⟨M5, eM5⟩ : ∃ z, z = mUp M4 a3 (mQ E 6 8 (fun _ => none)) := ⟨_, rfl⟩
  rw [← eM5] at hM
  have g_x : M5 x = some (mO 7 [.ref a1, .ref a2, .null, .null, .int 0, .int 0, .int 0, .int 0, .int 0, .int 0, .int 0]) := by rw [eM5]; exact mUp_at (m_neN g_x n_a3) g_x
  have g_a1 : M5 a1 = some (mQ E 4 12 (fun _ => none)) := by rw [eM5]; exact mUp_at (m_neN g_a1 n_a3) g_a1
  have g_a2 : M5 a2 = some (mQ E 5 10 (fun _ => none)) := by rw [eM5]; exact mUp_at (m_neN g_a2 n_a3) g_a2
  have g_a3 : M5 a3 = some (mQ E 6 8 (fun _ => none)) := by rw [eM5]; exact mUp_self _ _ _
  refine m_putF (ci := 7) (v := .ref a3) (ty := .array (.object "CallWays2$Function")) (C := RX9) (T := TX9) (N := 11) hx hb hts in_X9_init_X9 tyX9 tyX9_ok nmX9 hown hE hM hS g_x rfl 2 (by decide) (hts (.fieldLink RX9 23 "CallWays2" "functions" "[LCallWays2$Function;") (by decide +kernel)) (fun _ h9 => h9) rfl hnm rfl (by decide +kernel) rfl rfl (Nat.le_of_ble_eq_true rfl) dX9_init_28 (fun H locs hM hS => ?_)
  have hM : mOK E.1 (mA M sz) (mUp M5 x (mO 7 [.ref a1, .ref a2, .ref a3, .null, .int 0, .int 0, .int 0, .int 0, .int 0, .int 0, .int 0])) H := hM
  obtain ⟨M6, eM6⟩ : ∃ z, z = mUp M5 x (mO 7 [.ref a1, .ref a2, .ref a3, .null, .int 0, .int 0, .int 0, .int 0, .int 0, .int 0, .int 0]) := ⟨_, rfl⟩
  rw [← eM6] at hM
  have g_a1_ : M6 a1 = some (mQ E 4 12 (fun _ => none)) := by rw [eM6]; exact mUp_at (m_ne g_a1 g_x (by simp)) g_a1
  have g_a2_ : M6 a2 = some (mQ E 5 10 (fun _ => none)) := by rw [eM6]; exact mUp_at (m_ne g_a2 g_x (by simp)) g_a2
  have g_a3_ : M6 a3 = some (mQ E 6 8 (fun _ => none)) := by rw [eM6]; exact mUp_at (m_ne g_a3 g_x (by simp)) g_a3
  have g_a1 := g_a1_
  have g_a2 := g_a2_
  have g_a3 := g_a3_
  have g_x : M6 x = some (mO 7 [.ref a1, .ref a2, .ref a3, .null, .int 0, .int 0, .int 0, .int 0, .int 0, .int 0, .int 0]) := by rw [eM6]; exact mUp_self _ _ _
  refine lv_aload_n hx hb dX9_init_31 rfl (lv_at hl 0 rfl) ?_
  refine lv_bipush (v := 40) hx hb dX9_init_32 (by decide) ?_
  refine m_newD (N' := 40) hx hb (hts (.arrayClass .double) (by decide +kernel)) hE hM hS hA (by decide) (by decide) (by decide) (by show 0 + 1 + 1 + 1 + 1 ≤ 4; omega) (by show 0 + 12 + 10 + 8 + 40 ≤ 70; omega) dX9_init_34 (fun a4 H n_a4 hM hS => ?_)
  have hM : mOK E.1 (mA M sz) (mUp M6 a4 (mDb E 40 (fun _ => 0))) H := hM
  obtain ⟨M7, eM7⟩ : ∃ z, z = mUp M6 a4 (mDb E 40 (fun _ => 0)) := ⟨_, rfl⟩
  rw [← eM7] at hM
  have g_x : M7 x = some (mO 7 [.ref a1, .ref a2, .ref a3, .null, .int 0, .int 0, .int 0, .int 0, .int 0, .int 0, .int 0]) := by rw [eM7]; exact mUp_at (m_neN g_x n_a4) g_x
  have g_a1 : M7 a1 = some (mQ E 4 12 (fun _ => none)) := by rw [eM7]; exact mUp_at (m_neN g_a1 n_a4) g_a1
  have g_a2 : M7 a2 = some (mQ E 5 10 (fun _ => none)) := by rw [eM7]; exact mUp_at (m_neN g_a2 n_a4) g_a2
  have g_a3 : M7 a3 = some (mQ E 6 8 (fun _ => none)) := by rw [eM7]; exact mUp_at (m_neN g_a3 n_a4) g_a3
  have g_a4 : M7 a4 = some (mDb E 40 (fun _ => 0)) := by rw [eM7]; exact mUp_self _ _ _
  refine m_putF (ci := 7) (v := .ref a4) (ty := .array .double) (C := RX9) (T := TX9) (N := 11) hx hb hts in_X9_init_X9 tyX9 tyX9_ok nmX9 hown hE hM hS g_x rfl 3 (by decide) (hts (.fieldLink RX9 27 "CallWays2" "waiting" "[D") (by decide +kernel)) (fun _ h9 => h9) rfl hnm rfl (by decide +kernel) rfl rfl (Nat.le_of_ble_eq_true rfl) dX9_init_36 (fun H locs hM hS => ?_)
  have hM : mOK E.1 (mA M sz) (mUp M7 x (mO 7 [.ref a1, .ref a2, .ref a3, .ref a4, .int 0, .int 0, .int 0, .int 0, .int 0, .int 0, .int 0])) H := hM
  obtain ⟨M8, eM8⟩ : ∃ z, z = mUp M7 x (mO 7 [.ref a1, .ref a2, .ref a3, .ref a4, .int 0, .int 0, .int 0, .int 0, .int 0, .int 0, .int 0]) := ⟨_, rfl⟩
  rw [← eM8] at hM
  have g_a1_ : M8 a1 = some (mQ E 4 12 (fun _ => none)) := by rw [eM8]; exact mUp_at (m_ne g_a1 g_x (by simp)) g_a1
  have g_a2_ : M8 a2 = some (mQ E 5 10 (fun _ => none)) := by rw [eM8]; exact mUp_at (m_ne g_a2 g_x (by simp)) g_a2
  have g_a3_ : M8 a3 = some (mQ E 6 8 (fun _ => none)) := by rw [eM8]; exact mUp_at (m_ne g_a3 g_x (by simp)) g_a3
  have g_a4_ : M8 a4 = some (mDb E 40 (fun _ => 0)) := by rw [eM8]; exact mUp_at (m_ne g_a4 g_x (by simp)) g_a4
  have g_a1 := g_a1_
  have g_a2 := g_a2_
  have g_a3 := g_a3_
  have g_a4 := g_a4_
  have g_x : M8 x = some (mO 7 [.ref a1, .ref a2, .ref a3, .ref a4, .int 0, .int 0, .int 0, .int 0, .int 0, .int 0, .int 0]) := by rw [eM8]; exact mUp_self _ _ _
  refine lv_aload_n hx hb dX9_init_39 rfl (lv_at hl 0 rfl) ?_
  refine lv_iconst (v := -1) hx hb dX9_init_40 (by decide) ?_
  refine m_put (ci := 7) (v := .int (-1)) (ty := .int) (C := RX9) (T := TX9) (N := 11) hx hb hts in_X9_init_X9 tyX9 tyX9_ok nmX9 hown hE hM hS g_x rfl 6 (by decide) (hts (.fieldLink RX9 31 "CallWays2" "boundLane" "I") (by decide +kernel)) (fun _ h9 => h9) rfl (by decide +kernel) rfl rfl (Nat.le_of_ble_eq_true rfl) dX9_init_41 (fun H locs hM hS => ?_)
  have hM : mOK E.1 (mA M sz) (mUp M8 x (mO 7 [.ref a1, .ref a2, .ref a3, .ref a4, .int 0, .int 0, .int (-1), .int 0, .int 0, .int 0, .int 0])) H := hM
  obtain ⟨M9, eM9⟩ : ∃ z, z = mUp M8 x (mO 7 [.ref a1, .ref a2, .ref a3, .ref a4, .int 0, .int 0, .int (-1), .int 0, .int 0, .int 0, .int 0]) := ⟨_, rfl⟩
  rw [← eM9] at hM
  have g_a1_ : M9 a1 = some (mQ E 4 12 (fun _ => none)) := by rw [eM9]; exact mUp_at (m_ne g_a1 g_x (by simp)) g_a1
  have g_a2_ : M9 a2 = some (mQ E 5 10 (fun _ => none)) := by rw [eM9]; exact mUp_at (m_ne g_a2 g_x (by simp)) g_a2
  have g_a3_ : M9 a3 = some (mQ E 6 8 (fun _ => none)) := by rw [eM9]; exact mUp_at (m_ne g_a3 g_x (by simp)) g_a3
  have g_a4_ : M9 a4 = some (mDb E 40 (fun _ => 0)) := by rw [eM9]; exact mUp_at (m_ne g_a4 g_x (by simp)) g_a4
  have g_a1 := g_a1_
  have g_a2 := g_a2_
  have g_a3 := g_a3_
  have g_a4 := g_a4_
  have g_x : M9 x = some (mO 7 [.ref a1, .ref a2, .ref a3, .ref a4, .int 0, .int 0, .int (-1), .int 0, .int 0, .int 0, .int 0]) := by rw [eM9]; exact mUp_self _ _ _
  exact m_vret hx hb hr hlocks hM hS (by show 0 + 1 + 1 + 1 + 1 ≤ 4; omega) (by show 0 + 12 + 10 + 8 + 40 ≤ 70; omega) dX9_init_44 (by have k1 := n_a1; have k2 := (mUp_none (a := a1) (M := M) (by rw [← eM1]; exact (mUp_none (a := x) (by rw [← eM2]; exact n_a2)).2)).2; have k3 := (mUp_none (a := a1) (M := M) (by rw [← eM1]; exact (mUp_none (a := x) (by rw [← eM2]; exact (mUp_none (a := a2) (by rw [← eM3]; exact (mUp_none (a := x) (by rw [← eM4]; exact n_a3)).2)).2)).2)).2; have k4 := (mUp_none (a := a1) (M := M) (by rw [← eM1]; exact (mUp_none (a := x) (by rw [← eM2]; exact (mUp_none (a := a2) (by rw [← eM3]; exact (mUp_none (a := x) (by rw [← eM4]; exact (mUp_none (a := a3) (by rw [← eM5]; exact (mUp_none (a := x) (by rw [← eM6]; exact n_a4)).2)).2)).2)).2)).2)).2; exact ⟨cR0 g_x g_a1 g_a2 g_a3 g_a4 ⟨hx0, fun z => hO _ z k1, fun z => hO _ z k2, fun z => hO _ z k3, fun z => hO _ z k4⟩, by rw [eM9, eM8, eM7, eM6, eM5, eM4, eM3, eM2, eM1]; exact ((((((((kept.rf.up (fun z => hO _ z k1)).up hx0).up (fun z => hO _ z k2)).up hx0).up (fun z => hO _ z k3)).up hx0).up (fun z => hO _ z k4)).up hx0).up hx0⟩)
abbrev sHit (p : Int32 × Int32) (x y : Int32) : Prop := ¬ (p.1 = 5 ∧ FP.dcmp (FP.i2d x) (FP.i2d p.2) = some .eq) ∧ FP.dcmp (sPass p.1 (FP.i2d p.2) (FP.i2d x)) (FP.i2d y) = some .eq
def sFind (fn : Nat → Int32 × Int32) (x y : Int32) : Nat → Nat → Int32
  | _, 0 => -1
  | i, n + 1 => if sHit (fn i) x y then nI i else sFind fn x y (i + 1) n
def aFind (σ : Sg) (x y : Int32) : Int32 := match σ with | (_, _, nf, fn, _) => sFind fn x y 0 nf
theorem fin_pass {k : Int32} {a x : UInt64} (ha : dB 1056 a) (hx : dB 1061 x) : dB 1095 (sPass k a x) := by
  unfold sPass
  split
  · exact (dB_add hx (ha.le (by decide)) (by decide)).le (by decide)
  · split
    · exact (dB_mul hx ha (by decide) (by decide)).le (by decide)
    · split
      · split
        · exact ha.le (by decide)
        · exact hx.le (by decide)
      · split
        · split
          · exact ha.le (by decide)
          · exact hx.le (by decide)
        · exact hx.le (by decide)
theorem in_X9_find_X9 : ∀ w ∈ wsX90, w ∈ wsX9_find := by decide +kernel
set_option maxHeartbeats 4000000 in
set_option maxRecDepth 100000 in
theorem c_X9_find (l : Launch) (E : mEnv) (M : mMem) (sz : Nat) (NO : Nat → Prop) (x nn nf : Nat) (ins : Nat → sIn) (fn : Nat → Int32 × Int32) (bk : Nat → Option Nat) (rw : Nat → sRw) (bd st c2 c3 c4 : Int32) (hV : Inv (nn, ins, nf, fn, bk, rw, bd, st, c2, c3, c4)) (hC : cRep E M NO x (nn, ins, nf, fn, bk, rw, bd, st, c2, c3, c4)) (hO : ∀ q, NO q → M q ≠ none) (fx fy : Int32)   : Met l yX9_find wsX9_find ({ frames := 1, cells := 0, slots := 0, locals := 22 }) (mPre E M sz [.ref x, .int fx, .int fy]) (mQi E M sz (fun r u => r = aFind (nn, ins, nf, fn, bk, rw, bd, st, c2, c3, c4) fx fy ∧ cRep E u NO x ((nn, ins, nf, fn, bk, rw, bd, st, c2, c3, c4)) ∧ kept NO M u)) (0) (0) (mA M sz) := by
  refine m_met [.ref x, .int fx, .int fy] (by decide) rfl (Nat.le_of_ble_eq_true rfl) ?_
  intro p e s m below meth c ls H eH hx hb hr hts hown hlocks hnm hml hsz hE hM hS hA hl
  have hl : lv_has ls 4 [(0, .ref x), (1, .int fx), (2, .int fy)] := hl
  obtain ⟨a1, a2, a3, a4, fi, fb, ff, wt, ia, ib, fa, ra, rb, fl, LV, hC⟩ := hC
  have hC0 := hC.rep
  have hiK := hV.insK
  obtain ⟨hnn, hnf, hvI, hvD, hv24, hvR, hvF⟩ := id hV
  obtain ⟨⟨g_x, g_a1, g_a2, g_a3, g_a4⟩, hI, hF, hB, hL, hR, hJ, hN⟩ := id hC
  obtain ⟨⟨nx, n1, n2, n3, n4⟩, nI0, nF0, nR0⟩ := id hN
  have g_a20 := g_a2
  have loop : ∀ (n9 i9 : Nat) (ls : Array Slot) (H : Heap) (locs : List Loc), i9 + n9 = nf → sFind fn fx fy 0 nf = sFind fn fx fy i9 n9 → mOK E.1 (mA M sz) M H → va_S (mA M sz) s.heap H locs → lv_has ls 4 [(3, .int (nI i9)), (0, .ref x), (1, .int fx), (2, .int fy)] → W p l e ({ frames := 1, cells := 0, slots := 0, locals := 22 } : Room) s m #[.ref x, .int fx, .int fy] below meth c H locs 0 0 (MQ below (mQi E M sz (fun r u => r = aFind (nn, ins, nf, fn, bk, rw, bd, st, c2, c3, c4) fx fy ∧ cRep E u NO x ((nn, ins, nf, fn, bk, rw, bd, st, c2, c3, c4)) ∧ kept NO M u)) #[.ref x, .int fx, .int fy] s (0) (0) (mA M sz)) (F0 m 2 ls []) := by
    intro n9
    induction n9 with
    | zero =>
      intro i9 ls H locs hn9 hf9 hM hS hl
      refine lv_iload_n hx hb dX9_find_2 rfl (lv_at hl 0 rfl) ?_
      refine lv_aload_n hx hb dX9_find_3 rfl (lv_at hl 1 rfl) ?_
      refine m_get (ci := 7) (v := .int (nI nf)) (C := RX9) (T := TX9) (N := 11) hx hb hts in_X9_find_X9 hown hE hM g_x rfl 5 (by decide) (hts (.fieldLink RX9 113 "CallWays2" "functionCount" "I") (by decide +kernel)) (fun _ h9 => h9) rfl dX9_find_4 ?_
      refine lv_icmp_ge (tgt := 49) hx hb dX9_find_7 (by decide) (fun _ => ?_) (fun h9 => False.elim (by revert h9; exact (fun h => h (nI_le (by omega) (by omega)))))
      refine lv_iconst (v := -1) hx hb dX9_find_49 (by decide) ?_
      exact m_iret hx hb hr hlocks hM hS (Nat.le_refl _) (Nat.le_refl _) dX9_find_50 (by exact ⟨hf9.symm, hC0, kept.rf⟩)
    | succ n9 ih =>
      intro i9 ls H locs hn9 hf9 hM hS hl
      obtain ⟨k9, g_p9⟩ := hF i9 (by omega)
      obtain ⟨p9, ep9⟩ : ∃ z, z = fa i9 := ⟨_, rfl⟩
      rw [← ep9] at k9 g_p9
      refine lv_iload_n hx hb dX9_find_2 rfl (lv_at hl 0 rfl) ?_
      refine lv_aload_n hx hb dX9_find_3 rfl (lv_at hl 1 rfl) ?_
      refine m_get (ci := 7) (v := .int (nI nf)) (C := RX9) (T := TX9) (N := 11) hx hb hts in_X9_find_X9 hown hE hM g_x rfl 5 (by decide) (hts (.fieldLink RX9 113 "CallWays2" "functionCount" "I") (by decide +kernel)) (fun _ h9 => h9) rfl dX9_find_4 ?_
      refine lv_icmp_ge (tgt := 49) hx hb dX9_find_7 (by decide) (fun h9 => False.elim (by revert h9; exact (fun h => absurd h (nI_ge (by omega) (by omega))))) (fun _ => ?_)
      refine lv_aload_n hx hb dX9_find_10 rfl (lv_at hl 1 rfl) ?_
      refine m_get (ci := 7) (v := .ref a3) (C := RX9) (T := TX9) (N := 11) hx hb hts in_X9_find_X9 hown hE hM g_x rfl 2 (by decide) (hts (.fieldLink RX9 23 "CallWays2" "functions" "[LCallWays2$Function;") (by decide +kernel)) (fun _ h9 => h9) rfl dX9_find_11 ?_
      refine lv_iload_n hx hb dX9_find_14 rfl (lv_at hl 0 rfl) ?_
      refine m_qald (C := "CallWays2$Function") (r := some p9) hx hb hE hM 6 g_a3 rfl (vp_in_nI (by omega) (by decide)) (by rw [nI_clamp (by omega)]; exact k9) dX9_find_15 ?_
      show W _ _ _ _ _ _ _ _ _ _ _ _ _ _ _ (F0 m 16 ls [.ref p9])
      refine lv_iload_n hx hb dX9_find_16 rfl (lv_at hl 2 rfl) ?_
      refine lv_i2d hx hb dX9_find_17 ?_
      refine m_calli (va_runV (As := [.double (FP.i2d fx)]) (rest := []) ⟨hx, hb, hml, hown, hts⟩ (c_X3_refuses l E M H.size p9 (fn i9).1 (FP.i2d (fn i9).2) (FP.i2d fx) g_p9) (cwV 1 hts gX9_find_X3_refuses rfl rfl rfl (by decide +kernel) ⟨Nat.le_of_ble_eq_true rfl, Nat.le_of_ble_eq_true rfl⟩) (m_preV hE hM g_p9 rfl) rfl rfl hl.1 rfl (lv_room (Nat.le_of_ble_eq_true rfl)) dX9_find_18 ⟨Nat.le_of_ble_eq_true rfl, Nat.le_of_ble_eq_true rfl⟩) hM hS hA (fun r1 u H locs hw hM hS => ?_)
      obtain ⟨e_r1, eu⟩ := hw
      rw [eu] at hM
      subst e_r1
      refine lv_if_ne (tgt := 43) hx hb dX9_find_21 (by decide) (fun c_21 => ?_) (fun c_21 => ?_)
      · skip
        rw [bI_ne] at c_21
        have hz : ¬ sHit (fn i9) fx fy := na1 (not_not_intro c_21)
        refine lv_iinc (v := ((nI i9) + 1)) (lv' := [(3, .int ((nI i9) + 1)), (0, .ref x), (1, .int fx), (2, .int fy)]) hx hb dX9_find_43 hl (k := 0) rfl rfl (by decide) rfl (fun ls hl => ?_)
        refine lv_goto (tgt := 2) hx hb dX9_find_46 (by decide) ?_
        rw [nI_1] at hl
        exact ih (i9 + 1) ls _ _ (by omega) (hf9.trans (if_neg hz)) hM hS (lv_sub hl [0, 1, 2, 3] rfl)
      · skip
        rw [bI_eq] at c_21
        refine lv_aload_n hx hb dX9_find_24 rfl (lv_at hl 1 rfl) ?_
        refine m_get (ci := 7) (v := .ref a3) (C := RX9) (T := TX9) (N := 11) hx hb hts in_X9_find_X9 hown hE hM g_x rfl 2 (by decide) (hts (.fieldLink RX9 23 "CallWays2" "functions" "[LCallWays2$Function;") (by decide +kernel)) (fun _ h9 => h9) rfl dX9_find_25 ?_
        refine lv_iload_n hx hb dX9_find_28 rfl (lv_at hl 0 rfl) ?_
        refine m_qald (C := "CallWays2$Function") (r := some p9) hx hb hE hM 6 g_a3 rfl (vp_in_nI (by omega) (by decide)) (by rw [nI_clamp (by omega)]; exact k9) dX9_find_29 ?_
        show W _ _ _ _ _ _ _ _ _ _ _ _ _ _ _ (F0 m 30 ls [.ref p9])
        refine lv_iload_n hx hb dX9_find_30 rfl (lv_at hl 2 rfl) ?_
        refine lv_i2d hx hb dX9_find_31 ?_
        refine m_calld (va_runV (As := [.double (FP.i2d fx)]) (rest := []) ⟨hx, hb, hml, hown, hts⟩ (c_X3_pass l E M H.size p9 (fn i9).1 (FP.i2d (fn i9).2) (FP.i2d fx) (fin_i2d fx) (fin_i2d _) g_p9) (cwV 1 hts gX9_find_X3_pass rfl rfl rfl (by decide +kernel) ⟨Nat.le_of_ble_eq_true rfl, Nat.le_of_ble_eq_true rfl⟩) (m_preV hE hM g_p9 rfl) rfl rfl hl.1 rfl (lv_room (Nat.le_of_ble_eq_true rfl)) dX9_find_32 ⟨Nat.le_of_ble_eq_true rfl, Nat.le_of_ble_eq_true rfl⟩) hM hS hA (fun r2 u H locs hw hM hS => ?_)
        obtain ⟨e_r2, eu⟩ := hw
        rw [eu] at hM
        subst e_r2
        refine lv_iload_n hx hb dX9_find_35 rfl (lv_at hl 3 rfl) ?_
        refine lv_i2d hx hb dX9_find_36 ?_
        refine lv_dcmp hx hb dX9_find_37 ?_
        refine lv_if_ne (tgt := 43) hx hb dX9_find_38 (by decide) (fun c_38 => ?_) (fun c_38 => ?_)
        · skip
          rw [cmpv_eq] at c_38
          have hz : ¬ sHit (fn i9) fx fy := na2 c_38
          refine lv_iinc (v := ((nI i9) + 1)) (lv' := [(3, .int ((nI i9) + 1)), (0, .ref x), (1, .int fx), (2, .int fy)]) hx hb dX9_find_43 hl (k := 0) rfl rfl (by decide) rfl (fun ls hl => ?_)
          refine lv_goto (tgt := 2) hx hb dX9_find_46 (by decide) ?_
          rw [nI_1] at hl
          exact ih (i9 + 1) ls _ _ (by omega) (hf9.trans (if_neg hz)) hM hS (lv_sub hl [0, 1, 2, 3] rfl)
        · skip
          rw [cmpv_eq] at c_38
          have hh : sHit (fn i9) fx fy := ⟨c_21, c_38⟩
          refine lv_iload_n hx hb dX9_find_41 rfl (lv_at hl 0 rfl) ?_
          exact m_iret hx hb hr hlocks hM hS (Nat.le_refl _) (Nat.le_refl _) dX9_find_42 (by exact ⟨(hf9.trans (if_pos hh)).symm, hC0, kept.rf⟩)
  refine lv_iconst (v := 0) hx hb dX9_find_0 (by decide) ?_
  refine lv_istore_n (lv' := [(3, .int 0), (0, .ref x), (1, .int fx), (2, .int fy)]) hx hb dX9_find_1 rfl hl (by decide) rfl (fun ls hl => ?_)
  exact loop nf 0 ls _ _ (by omega) rfl hM hS (lv_sub hl [0, 1, 2, 3] rfl)
/-- what a row gives to a reader is an int -/
def tbOK (tb : tbT) : Prop := ∀ d, tb = some d → d.2.1 ≤ 40 ∧ (d.1 = 1 → ∀ j, j < d.2.1 → ∃ n : Int32, d.2.2 j = FP.i2d n)
theorem dB_c0 : dB 1 FP.dconst0 := by unfold dB; decide
theorem dB_give {ci : Nat} {kf : Nat → Int32} {pi on ph : Int32} {le : UInt64} {tb : tbT} (hle : dL le) (htb : tbOK tb) : dB 1061 (sGive ci kf pi on ph le tb).2.1 := by
  unfold sGive
  split
  · exact (dB_tone pi on ph).le (by decide)
  · split
    · exact dB_add ((dB_mul (K := 1025) (L := 1056) (by unfold dB; decide) (dB_tone pi on ph) (by decide) (by decide)).le (by decide)) ((dB_i2d _).le (by decide)) (by decide)
    · split
      · exact (dL_drum hle).1.b.le (by decide)
      · split
        · unfold sBell
          split
          · exact dB_c0.le (by decide)
          · show dB 1061 (if ph &&& 1 = 0 then _ else _)
            split
            · exact (dL_drum hle).1.b.le (by decide)
            · exact (dB_mul (K := 1024) (by unfold dB; decide) (dL_drum hle).1.b (by decide) (by decide)).le (by decide)
        · show dB 1061 (sRead _ _ _ _).2
          unfold sRead
          split
          · exact dB_c0.le (by decide)
          · cases tb with
            | none => exact dB_c0.le (by decide)
            | some t =>
              show dB 1061 (if t.1 = 1 then _ else _ : Int32 × UInt64).2
              split
              · rename_i h1
                split
                · rename_i h2
                  obtain ⟨z, hz, e⟩ := vp_in_of (vp_in_h h2 (by have := (htb t rfl).1; omega)) (by have := (htb t rfl).1; omega)
                  obtain ⟨n, hn⟩ := (htb t rfl).2 h1 z hz
                  show dB 1061 (t.2.2 _)
                  rw [e, nI_clamp (by have := (htb t rfl).1; omega), hn]
                  exact (dB_i2d n).le (by decide)
                · exact dB_c0.le (by decide)
              · exact dB_c0.le (by decide)
theorem dL_give {ci : Nat} {kf : Nat → Int32} {pi on ph : Int32} {le : UInt64} {tb : tbT} (hle : dL le) : dL (sGive ci kf pi on ph le tb).2.2 := by
  unfold sGive
  split
  · exact hle
  · split
    · exact hle
    · split
      · exact (dL_drum hle).2
      · split
        · unfold sBell
          split
          · exact hle
          · exact (dL_drum hle).2
        · exact hle
theorem va_up_id {α : Type} {f : Nat → α} {j : Nat} {v : α} (h : f j = v) : va_up f j v = f := by
  funext q
  by_cases hq : q = j
  · rw [hq, va_up_self, h]
  · exact va_up_ne _ _ hq
def gvAt (ins : Nat → sIn) (rw : Nat → sRw) (j : Nat) : Int32 × UInt64 × UInt64 := match ins j with | (ci, kf, pi, on, ph, le, tb) => sGive ci kf pi on ph le (tb.map rw)
def aNext (σ : Sg) (i : Int32) : Int64 := match σ with | (nn, ins, _, _, _, rw, _) => if vI nn i then (if (gvAt ins rw i.toNatClampNeg).1 = 0 then (gvAt ins rw i.toNatClampNeg).2.1.toInt64 else 0) else 0
def nNext (σ : Sg) (i : Int32) : Sg := match σ with | (nn, ins, nf, fn, bk, rw, bd, st, c2, c3, c4) => (nn, ins, nf, fn, bk, rw, bd, (if vI nn i then (gvAt ins rw i.toNatClampNeg).1 else -1), c2, c3, c4)
theorem tbAt_of {E : mEnv} {M : mMem} {nn j : Nat} {ins : Nat → sIn} {bk : Nat → Option Nat} {rw : Nat → sRw} {LV : Nat → Prop} {ra rb : Nat → Nat} {a4 : Nat} {tb : Option Nat} (hL : ∀ r, live nn ins bk r → LV r) (hR : pRow E M LV rw ra rb a4) (hj : j < nn) (ht : (ins j).2.2.2.2.2.2 = tb) : tbAt E M (tb.map ra) (tb.map rw) := by
  cases tb with
  | none => trivial
  | some r =>
    obtain ⟨k1, k2, _⟩ := hR r (hL r (Or.inr ⟨j, hj, ht⟩)) _ _ _ rfl
    exact ⟨rb r, k1, k2⟩
theorem tbOK_of {nn j : Nat} {ins : Nat → sIn} {bk : Nat → Option Nat} {rw : Nat → sRw} {tb : Option Nat} (hvR : ∀ r, live nn ins bk r → ∀ lane n f, rw r = (lane, n, f) → n ≤ 40 ∧ (lane = 0 ∨ lane = 1 ∨ lane = 2 ∨ lane = 3) ∧ ∀ j, j < n → vOK lane (f j)) (hj : j < nn) (ht : (ins j).2.2.2.2.2.2 = tb) : tbOK (tb.map rw) := by
  cases tb with
  | none => intro d hd; cases hd
  | some r =>
    intro d hd
    cases hd
    obtain ⟨h1, _, h2⟩ := hvR r (Or.inr ⟨j, hj, ht⟩) _ _ _ rfl
    refine ⟨h1, fun hl q hq => ?_⟩
    have := h2 q hq
    rcases this with ⟨h, hn⟩ | ⟨h, hn⟩ | ⟨h, _⟩ | ⟨h, _⟩
    · exact hn
    · exact hn
    · rw [h] at hl; exact absurd hl (by decide)
    · rw [h] at hl; exact absurd hl (by decide)
theorem in_X9_next_I : ∀ w ∈ wsX00 ++ wsX20 ++ wsX40 ++ wsX60 ++ wsX80, w ∈ wsX9_next := by decide +kernel
theorem in_X9_next_X9 : ∀ w ∈ wsX90, w ∈ wsX9_next := by decide +kernel
set_option maxHeartbeats 4000000 in
set_option maxRecDepth 100000 in
theorem c_X9_next (l : Launch) (E : mEnv) (M : mMem) (sz : Nat) (NO : Nat → Prop) (x nn nf : Nat) (ins : Nat → sIn) (fn : Nat → Int32 × Int32) (bk : Nat → Option Nat) (rw : Nat → sRw) (bd st c2 c3 c4 : Int32) (hV : Inv (nn, ins, nf, fn, bk, rw, bd, st, c2, c3, c4)) (hC : cRep E M NO x (nn, ins, nf, fn, bk, rw, bd, st, c2, c3, c4)) (hO : ∀ q, NO q → M q ≠ none) (i : Int32)    : Met l yX9_next wsX9_next ({ frames := 4, cells := 0, slots := 0, locals := 88 }) (mPre E M sz [.ref x, .int i]) (mQl E M sz (fun r u => r = aNext (nn, ins, nf, fn, bk, rw, bd, st, c2, c3, c4) i ∧ cRep E u NO x (nNext (nn, ins, nf, fn, bk, rw, bd, st, c2, c3, c4) i) ∧ kept NO M u)) (0) (0) (mA M sz) := by
  refine m_met [.ref x, .int i] (by decide) rfl (Nat.le_of_ble_eq_true rfl) ?_
  intro p e s m below meth c ls H eH hx hb hr hts hown hlocks hnm hml hsz hE hM hS hA hl
  have hl : lv_has ls 8 [(0, .ref x), (1, .int i)] := hl
  obtain ⟨a1, a2, a3, a4, fi, fb, ff, wt, ia, ib, fa, ra, rb, fl, LV, hC⟩ := hC
  have hC0 := hC.rep
  have hiK := hV.insK
  obtain ⟨hnn, hnf, hvI, hvD, hv24, hvR, hvF⟩ := id hV
  obtain ⟨⟨g_x, g_a1, g_a2, g_a3, g_a4⟩, hI, hF, hB, hL, hR, hJ, hN⟩ := id hC
  obtain ⟨⟨nx, n1, n2, n3, n4⟩, nI0, nF0, nR0⟩ := id hN
  have g_a20 := g_a2
  refine lv_aload_n hx hb dX9_next_0 rfl (lv_at hl 0 rfl) ?_
  refine lv_iload_n hx hb dX9_next_1 rfl (lv_at hl 1 rfl) ?_
  refine m_callq (va_runV (As := [.int i]) (rest := []) ⟨hx, hb, hml, hown, hts⟩ (c_X9_instrumentAt l E M H.size x a1 a2 a3 a4 nn nf bd st c2 c3 c4 fi fb ff wt i hnn g_x g_a1) (cwV 1 hts gX9_next_X9_instrumentAt rfl rfl rfl (by decide +kernel) ⟨Nat.le_of_ble_eq_true rfl, Nat.le_of_ble_eq_true rfl⟩) (m_preV hE hM g_x rfl) rfl rfl hl.1 rfl (lv_room (Nat.le_of_ble_eq_true rfl)) dX9_next_2 ⟨Nat.le_of_ble_eq_true rfl, Nat.le_of_ble_eq_true rfl⟩) hM hS hA (fun r1 u H locs hw hM hS => ?_)
  obtain ⟨e_r1, eu⟩ := hw
  rw [eu] at hM
  by_cases hv : ¬ i < 0 ∧ ¬ nI nn ≤ i
  · rw [if_pos hv] at e_r1
    obtain ⟨j, hj, hij, hjc⟩ := vI_ix hv hnn
    rw [hjc] at e_r1
    rcases hins : ins j with ⟨ci, kf, pi, on, ph, le, tb⟩
    obtain ⟨k1, g_p0, g_q0⟩ := hI j hj _ _ _ _ _ _ _ hins
    obtain ⟨hci, hle, hon⟩ := hvI j hj _ _ _ _ _ _ _ hins
    have hno := nI0 j hj
    obtain ⟨p0, ep0⟩ : ∃ z, z = ia j := ⟨_, rfl⟩
    obtain ⟨q0, eq0⟩ : ∃ z, z = ib j := ⟨_, rfl⟩
    obtain ⟨f0, ef0⟩ : ∃ z, z = fl j := ⟨_, rfl⟩
    rw [← ep0] at k1 g_p0
    rw [← eq0, ← ef0] at g_p0
    rw [← eq0] at g_q0
    rw [k1] at e_r1
    subst e_r1
    refine W.eq (g2 := F0 m 5 ls [.ref p0]) rfl ?_
    refine lv_astore_n (lv' := [(2, .ref p0), (0, .ref x), (1, .int i)]) hx hb dX9_next_5 rfl hl (by decide) rfl (fun ls hl => ?_)
    refine lv_aload_n hx hb dX9_next_6 rfl (lv_at hl 0 rfl) ?_
    refine lv_ifnonnull (tgt := 17) hx hb dX9_next_7 (by decide) ?_
    refine lv_aload_n hx hb dX9_next_17 rfl (lv_at hl 0 rfl) ?_
    refine m_getI (v := .int ph) hx hb hts in_X9_next_I hown hE hM g_p0 hci 3 (by decide) (hts (.fieldLink RX9 60 "CallWays2$Instrument" "phase" "I") (by decide +kernel)) (fun _ h9 => h9) rfl dX9_next_18 ?_
    refine lv_istore_n (lv' := [(3, .int ph), (2, .ref p0), (0, .ref x), (1, .int i)]) hx hb dX9_next_21 rfl hl (by decide) rfl (fun ls hl => ?_)
    refine lv_aload_n hx hb dX9_next_22 rfl (lv_at hl 1 rfl) ?_
    refine m_getI (v := .double le) hx hb hts in_X9_next_I hown hE hM g_p0 hci 4 (by decide) (hts (.fieldLink RX9 141 "CallWays2$Instrument" "level" "D") (by decide +kernel)) (fun _ h9 => h9) rfl dX9_next_23 ?_
    refine lv_dstore (lv' := [(4, .double le), (3, .int ph), (2, .ref p0), (0, .ref x), (1, .int i)]) hx hb dX9_next_26 hl (by decide) rfl (fun ls hl => ?_)
    refine lv_aload_n hx hb dX9_next_28 rfl (lv_at hl 2 rfl) ?_
    have htb := tbAt_of (E := E) (M := M) hL hR hj (by rw [hins])
    have hto := tbOK_of hvR hj (tb := tb) (by rw [hins])
    have hMr := hM
    have hrun : va_Run p l e ({ frames := 4, cells := 0, slots := 0, locals := 88 } : Room) s m #[.ref x, .int i] below meth c H locs 0 0 0 0 (F0 m 29 ls [.ref p0]) [] (mQd E M H.size (fun r u => r = (sGive ci kf pi on ph le (tb.map rw)).2.1 ∧ u = mUp M p0 (mO ci [.ref q0, .int pi, .int on, .int (ph + 1), .double ((sGive ci kf pi on ph le (tb.map rw)).2.2), va_rf (tb.map ra), .int ((sGive ci kf pi on ph le (tb.map rw)).1)])) #[.ref p0]) (mA M H.size) := by
      rcases hci with rfl | rfl | rfl | rfl | rfl
      · exact va_runU (As := []) (rest := []) ⟨hx, hb, hml, hown, hts⟩ (c_X5_ask l E M H.size 0 (by unfold insK; decide) p0 q0 pi on ph le (tb.map ra) kf (tb.map rw) f0 htb hle (fun d hd => by have := (hto d hd).1; omega) g_p0 g_q0) (va_cwU 0 hts gX9_next_X5_ask_u160X0 rfl rfl rfl rfl (by decide +kernel) ⟨Nat.le_of_ble_eq_true rfl, Nat.le_of_ble_eq_true rfl⟩) (m_preV hE hMr g_p0 rfl) rfl rfl hl.1 rfl (lv_room (Nat.le_of_ble_eq_true rfl)) dX9_next_29 ⟨Nat.le_of_ble_eq_true rfl, Nat.le_of_ble_eq_true rfl⟩
      · exact va_runU (As := []) (rest := []) ⟨hx, hb, hml, hown, hts⟩ (c_X5_ask l E M H.size 1 (by unfold insK; decide) p0 q0 pi on ph le (tb.map ra) kf (tb.map rw) f0 htb hle (fun d hd => by have := (hto d hd).1; omega) g_p0 g_q0) (va_cwU 0 hts gX9_next_X5_ask_u160X2 rfl rfl rfl rfl (by decide +kernel) ⟨Nat.le_of_ble_eq_true rfl, Nat.le_of_ble_eq_true rfl⟩) (m_preV hE hMr g_p0 rfl) rfl rfl hl.1 rfl (lv_room (Nat.le_of_ble_eq_true rfl)) dX9_next_29 ⟨Nat.le_of_ble_eq_true rfl, Nat.le_of_ble_eq_true rfl⟩
      · exact va_runU (As := []) (rest := []) ⟨hx, hb, hml, hown, hts⟩ (c_X5_ask l E M H.size 3 (by unfold insK; decide) p0 q0 pi on ph le (tb.map ra) kf (tb.map rw) f0 htb hle (fun d hd => by have := (hto d hd).1; omega) g_p0 g_q0) (va_cwU 0 hts gX9_next_X5_ask_u160X4 rfl rfl rfl rfl (by decide +kernel) ⟨Nat.le_of_ble_eq_true rfl, Nat.le_of_ble_eq_true rfl⟩) (m_preV hE hMr g_p0 rfl) rfl rfl hl.1 rfl (lv_room (Nat.le_of_ble_eq_true rfl)) dX9_next_29 ⟨Nat.le_of_ble_eq_true rfl, Nat.le_of_ble_eq_true rfl⟩
      · exact va_runU (As := []) (rest := []) ⟨hx, hb, hml, hown, hts⟩ (c_X5_ask l E M H.size 4 (by unfold insK; decide) p0 q0 pi on ph le (tb.map ra) kf (tb.map rw) f0 htb hle (fun d hd => by have := (hto d hd).1; omega) g_p0 g_q0) (va_cwU 0 hts gX9_next_X5_ask_u160X6 rfl rfl rfl rfl (by decide +kernel) ⟨Nat.le_of_ble_eq_true rfl, Nat.le_of_ble_eq_true rfl⟩) (m_preV hE hMr g_p0 rfl) rfl rfl hl.1 rfl (lv_room (Nat.le_of_ble_eq_true rfl)) dX9_next_29 ⟨Nat.le_of_ble_eq_true rfl, Nat.le_of_ble_eq_true rfl⟩
      · exact va_runU (As := []) (rest := []) ⟨hx, hb, hml, hown, hts⟩ (c_X5_ask l E M H.size 6 (by unfold insK; decide) p0 q0 pi on ph le (tb.map ra) kf (tb.map rw) f0 htb hle (fun d hd => by have := (hto d hd).1; omega) g_p0 g_q0) (va_cwU 0 hts gX9_next_X5_ask_u160X8 rfl rfl rfl rfl (by decide +kernel) ⟨Nat.le_of_ble_eq_true rfl, Nat.le_of_ble_eq_true rfl⟩) (m_preV hE hMr g_p0 rfl) rfl rfl hl.1 rfl (lv_room (Nat.le_of_ble_eq_true rfl)) dX9_next_29 ⟨Nat.le_of_ble_eq_true rfl, Nat.le_of_ble_eq_true rfl⟩
    refine m_calld hrun hM hS hA (fun rd M1 H locs hw hM hS => ?_)
    obtain ⟨e_rd, eM1⟩ := hw
    subst e_rd
    have g_x_ : M1 x = some (mO 7 [.ref a1, .ref a2, .ref a3, .ref a4, .int (nI nn), .int (nI nf), .int bd, .int st, .int c2, .int c3, .int c4]) := by rw [eM1]; exact mUp_at (m_ne g_x g_p0 (by simp)) g_x
    have g_a1_ : M1 a1 = some (mQ E 4 12 fi) := by rw [eM1]; exact mUp_at (m_ne g_a1 g_p0 (by simp)) g_a1
    have g_a2_ : M1 a2 = some (mQ E 5 10 fb) := by rw [eM1]; exact mUp_at (m_ne g_a2 g_p0 (by simp)) g_a2
    have g_a3_ : M1 a3 = some (mQ E 6 8 ff) := by rw [eM1]; exact mUp_at (m_ne g_a3 g_p0 (by simp)) g_a3
    have g_a4_ : M1 a4 = some (mDb E 40 wt) := by rw [eM1]; exact mUp_at (m_ne g_a4 g_p0 (by simp)) g_a4
    have g_q0_ : M1 q0 = some (mI E 4 kf) := by rw [eM1]; exact mUp_at (m_ne g_q0 g_p0 (by simp)) g_q0
    have g_x := g_x_
    have g_a1 := g_a1_
    have g_a2 := g_a2_
    have g_a3 := g_a3_
    have g_a4 := g_a4_
    have g_q0 := g_q0_
    have g_p0 : M1 p0 = some (mO ci [.ref q0, .int pi, .int on, .int (ph + 1), .double ((sGive ci kf pi on ph le (tb.map rw)).2.2), va_rf (tb.map ra), .int ((sGive ci kf pi on ph le (tb.map rw)).1)]) := by rw [eM1]; exact mUp_self _ _ _
    refine lv_dstore (lv' := [(6, .double ((sGive ci kf pi on ph le (tb.map rw)).2.1)), (4, .double le), (3, .int ph), (2, .ref p0), (0, .ref x), (1, .int i)]) hx hb dX9_next_32 hl (by decide) rfl (fun ls hl => ?_)
    refine lv_aload_n hx hb dX9_next_34 rfl (lv_at hl 3 rfl) ?_
    refine lv_iload_n hx hb dX9_next_35 rfl (lv_at hl 2 rfl) ?_
    refine lv_dload hx hb dX9_next_36 (lv_at hl 1 rfl) ?_
    have hMr := hM
    have hrun : va_Run p l e ({ frames := 4, cells := 0, slots := 0, locals := 88 } : Room) s m #[.ref x, .int i] below meth c H locs 0 0 0 0 (F0 m 38 ls [.double le, .int ph, .ref p0]) [] (mQv E M1 H.size (fun u => u = mUp M1 p0 (mO ci [.ref q0, .int pi, .int on, .int ph, .double le, va_rf (tb.map ra), .int ((sGive ci kf pi on ph le (tb.map rw)).1)])) #[.ref p0, .int ph, .double le]) (mA M1 H.size) := by
      rcases hci with rfl | rfl | rfl | rfl | rfl
      · exact va_runU (As := [.int ph, .double le]) (rest := []) ⟨hx, hb, hml, hown, hts⟩ (c_X5_goBack l E M1 H.size 0 (by unfold insK; decide) p0 q0 pi on (ph + 1) ((sGive 0 kf pi on ph le (tb.map rw)).1) ((sGive 0 kf pi on ph le (tb.map rw)).2.2) (tb.map ra) ph le g_p0) (va_cwU 2 hts gX9_next_X5_goBack_u149X0 rfl rfl rfl rfl (by decide +kernel) ⟨Nat.le_of_ble_eq_true rfl, Nat.le_of_ble_eq_true rfl⟩) (m_preV hE hMr g_p0 rfl) rfl rfl hl.1 rfl (lv_room (Nat.le_of_ble_eq_true rfl)) dX9_next_38 ⟨Nat.le_of_ble_eq_true rfl, Nat.le_of_ble_eq_true rfl⟩
      · exact va_runU (As := [.int ph, .double le]) (rest := []) ⟨hx, hb, hml, hown, hts⟩ (c_X5_goBack l E M1 H.size 1 (by unfold insK; decide) p0 q0 pi on (ph + 1) ((sGive 1 kf pi on ph le (tb.map rw)).1) ((sGive 1 kf pi on ph le (tb.map rw)).2.2) (tb.map ra) ph le g_p0) (va_cwU 2 hts gX9_next_X5_goBack_u149X2 rfl rfl rfl rfl (by decide +kernel) ⟨Nat.le_of_ble_eq_true rfl, Nat.le_of_ble_eq_true rfl⟩) (m_preV hE hMr g_p0 rfl) rfl rfl hl.1 rfl (lv_room (Nat.le_of_ble_eq_true rfl)) dX9_next_38 ⟨Nat.le_of_ble_eq_true rfl, Nat.le_of_ble_eq_true rfl⟩
      · exact va_runU (As := [.int ph, .double le]) (rest := []) ⟨hx, hb, hml, hown, hts⟩ (c_X5_goBack l E M1 H.size 3 (by unfold insK; decide) p0 q0 pi on (ph + 1) ((sGive 3 kf pi on ph le (tb.map rw)).1) ((sGive 3 kf pi on ph le (tb.map rw)).2.2) (tb.map ra) ph le g_p0) (va_cwU 2 hts gX9_next_X5_goBack_u149X4 rfl rfl rfl rfl (by decide +kernel) ⟨Nat.le_of_ble_eq_true rfl, Nat.le_of_ble_eq_true rfl⟩) (m_preV hE hMr g_p0 rfl) rfl rfl hl.1 rfl (lv_room (Nat.le_of_ble_eq_true rfl)) dX9_next_38 ⟨Nat.le_of_ble_eq_true rfl, Nat.le_of_ble_eq_true rfl⟩
      · exact va_runU (As := [.int ph, .double le]) (rest := []) ⟨hx, hb, hml, hown, hts⟩ (c_X5_goBack l E M1 H.size 4 (by unfold insK; decide) p0 q0 pi on (ph + 1) ((sGive 4 kf pi on ph le (tb.map rw)).1) ((sGive 4 kf pi on ph le (tb.map rw)).2.2) (tb.map ra) ph le g_p0) (va_cwU 2 hts gX9_next_X5_goBack_u149X6 rfl rfl rfl rfl (by decide +kernel) ⟨Nat.le_of_ble_eq_true rfl, Nat.le_of_ble_eq_true rfl⟩) (m_preV hE hMr g_p0 rfl) rfl rfl hl.1 rfl (lv_room (Nat.le_of_ble_eq_true rfl)) dX9_next_38 ⟨Nat.le_of_ble_eq_true rfl, Nat.le_of_ble_eq_true rfl⟩
      · exact va_runU (As := [.int ph, .double le]) (rest := []) ⟨hx, hb, hml, hown, hts⟩ (c_X5_goBack l E M1 H.size 6 (by unfold insK; decide) p0 q0 pi on (ph + 1) ((sGive 6 kf pi on ph le (tb.map rw)).1) ((sGive 6 kf pi on ph le (tb.map rw)).2.2) (tb.map ra) ph le g_p0) (va_cwU 2 hts gX9_next_X5_goBack_u149X8 rfl rfl rfl rfl (by decide +kernel) ⟨Nat.le_of_ble_eq_true rfl, Nat.le_of_ble_eq_true rfl⟩) (m_preV hE hMr g_p0 rfl) rfl rfl hl.1 rfl (lv_room (Nat.le_of_ble_eq_true rfl)) dX9_next_38 ⟨Nat.le_of_ble_eq_true rfl, Nat.le_of_ble_eq_true rfl⟩
    refine m_callv hrun hM hS hA (fun M2 H locs hw hM hS => ?_)
    have eM2 := hw
    have g_x_ : M2 x = some (mO 7 [.ref a1, .ref a2, .ref a3, .ref a4, .int (nI nn), .int (nI nf), .int bd, .int st, .int c2, .int c3, .int c4]) := by rw [eM2]; exact mUp_at (m_ne g_x g_p0 (by simp)) g_x
    have g_a1_ : M2 a1 = some (mQ E 4 12 fi) := by rw [eM2]; exact mUp_at (m_ne g_a1 g_p0 (by simp)) g_a1
    have g_a2_ : M2 a2 = some (mQ E 5 10 fb) := by rw [eM2]; exact mUp_at (m_ne g_a2 g_p0 (by simp)) g_a2
    have g_a3_ : M2 a3 = some (mQ E 6 8 ff) := by rw [eM2]; exact mUp_at (m_ne g_a3 g_p0 (by simp)) g_a3
    have g_a4_ : M2 a4 = some (mDb E 40 wt) := by rw [eM2]; exact mUp_at (m_ne g_a4 g_p0 (by simp)) g_a4
    have g_q0_ : M2 q0 = some (mI E 4 kf) := by rw [eM2]; exact mUp_at (m_ne g_q0 g_p0 (by simp)) g_q0
    have g_x := g_x_
    have g_a1 := g_a1_
    have g_a2 := g_a2_
    have g_a3 := g_a3_
    have g_a4 := g_a4_
    have g_q0 := g_q0_
    have g_p0 : M2 p0 = some (mO ci [.ref q0, .int pi, .int on, .int ph, .double le, va_rf (tb.map ra), .int ((sGive ci kf pi on ph le (tb.map rw)).1)]) := by rw [eM2]; exact mUp_self _ _ _
    refine lv_aload_n hx hb dX9_next_41 rfl (lv_at hl 4 rfl) ?_
    refine lv_aload_n hx hb dX9_next_42 rfl (lv_at hl 3 rfl) ?_
    refine m_getI (v := .int ((sGive ci kf pi on ph le (tb.map rw)).1)) hx hb hts in_X9_next_I hown hE hM g_p0 hci 6 (by decide) (hts (.fieldLink RX9 164 "CallWays2$Instrument" "failure" "I") (by decide +kernel)) (fun _ h9 => h9) rfl dX9_next_43 ?_
    refine m_put (ci := 7) (v := .int ((sGive ci kf pi on ph le (tb.map rw)).1)) (ty := .int) (C := RX9) (T := TX9) (N := 11) hx hb hts in_X9_next_X9 tyX9 tyX9_ok nmX9 hown hE hM hS g_x rfl 7 (by decide) (hts (.fieldLink RX9 53 "CallWays2" "latest" "I") (by decide +kernel)) (fun _ h9 => h9) rfl (by decide +kernel) rfl rfl (Nat.le_of_ble_eq_true rfl) dX9_next_46 (fun H locs hM hS => ?_)
    have hM : mOK E.1 (mA M sz) (mUp M2 x (mO 7 [.ref a1, .ref a2, .ref a3, .ref a4, .int (nI nn), .int (nI nf), .int bd, .int ((sGive ci kf pi on ph le (tb.map rw)).1), .int c2, .int c3, .int c4])) H := hM
    obtain ⟨M3, eM3⟩ : ∃ z, z = mUp M2 x (mO 7 [.ref a1, .ref a2, .ref a3, .ref a4, .int (nI nn), .int (nI nf), .int bd, .int ((sGive ci kf pi on ph le (tb.map rw)).1), .int c2, .int c3, .int c4]) := ⟨_, rfl⟩
    rw [← eM3] at hM
    have g_a1_ : M3 a1 = some (mQ E 4 12 fi) := by rw [eM3]; exact mUp_at (m_ne g_a1 g_x (by simp)) g_a1
    have g_a2_ : M3 a2 = some (mQ E 5 10 fb) := by rw [eM3]; exact mUp_at (m_ne g_a2 g_x (by simp)) g_a2
    have g_a3_ : M3 a3 = some (mQ E 6 8 ff) := by rw [eM3]; exact mUp_at (m_ne g_a3 g_x (by simp)) g_a3
    have g_a4_ : M3 a4 = some (mDb E 40 wt) := by rw [eM3]; exact mUp_at (m_ne g_a4 g_x (by simp)) g_a4
    have g_p0_ : M3 p0 = some (mO ci [.ref q0, .int pi, .int on, .int ph, .double le, va_rf (tb.map ra), .int ((sGive ci kf pi on ph le (tb.map rw)).1)]) := by rw [eM3]; exact mUp_at (Ne.symm (m_ne g_x g_p0 (by simp))) g_p0
    have g_q0_ : M3 q0 = some (mI E 4 kf) := by rw [eM3]; exact mUp_at (m_ne g_q0 g_x (by simp)) g_q0
    have g_a1 := g_a1_
    have g_a2 := g_a2_
    have g_a3 := g_a3_
    have g_a4 := g_a4_
    have g_p0 := g_p0_
    have g_q0 := g_q0_
    have g_x : M3 x = some (mO 7 [.ref a1, .ref a2, .ref a3, .ref a4, .int (nI nn), .int (nI nf), .int bd, .int ((sGive ci kf pi on ph le (tb.map rw)).1), .int c2, .int c3, .int c4]) := by rw [eM3]; exact mUp_self _ _ _
    refine lv_aload_n hx hb dX9_next_49 rfl (lv_at hl 4 rfl) ?_
    refine m_get (ci := 7) (v := .int ((sGive ci kf pi on ph le (tb.map rw)).1)) (C := RX9) (T := TX9) (N := 11) hx hb hts in_X9_next_X9 hown hE hM g_x rfl 7 (by decide) (hts (.fieldLink RX9 53 "CallWays2" "latest" "I") (by decide +kernel)) (fun _ h9 => h9) rfl dX9_next_50 ?_
    refine lv_if_ne (tgt := 64) hx hb dX9_next_53 (by decide) (fun c_53 => ?_) (fun c_53 => ?_)
    · skip
      refine lv_lconst (v := 0) hx hb dX9_next_64 (by decide) ?_
      exact m_lret hx hb hr hlocks hM hS (Nat.le_refl _) (Nat.le_refl _) dX9_next_65 (by exact ⟨(by show _ = (if vI nn i then (if _ = 0 then _ else _) else _); rw [if_pos hv, hjc]; unfold gvAt; rw [hins]; exact (if_neg c_53).symm), (by show cRep E _ NO x (nn, ins, nf, fn, bk, rw, bd, (if vI nn i then _ else _), c2, c3, c4); rw [if_pos hv, hjc, eM3, eM2, eM1, ep0, eq0]; unfold gvAt; rw [hins, mUp_up]; have h1 := (hC.inst (pi' := pi) (on' := on) (ph' := ph) (le' := le) (fl' := (sGive ci kf pi on ph le (tb.map rw)).1) hiK hj hins); rw [va_up_id hins] at h1; exact (h1.scal hiK).rep), (by rw [eM3, eM2, eM1, ep0]; exact (((kept.rf.up hno.1).up hno.1).up nx))⟩)
    · skip
      refine lv_dload hx hb dX9_next_56 (lv_at hl 0 rfl) ?_
      refine m_calll (va_runS (As := [.double ((sGive ci kf pi on ph le (tb.map rw)).2.1)]) (rest := []) ⟨hx, hb, hml, hown, hts⟩ (c_X1_ofDouble l E M3 H.size (sGive ci kf pi on ph le (tb.map rw)).2.1 ((dB_give hle hto).fin (by decide))) (va_cwS 1 hts gX9_next_X1_ofDouble rfl rfl rfl (by decide +kernel) ⟨Nat.le_of_ble_eq_true rfl, Nat.le_of_ble_eq_true rfl⟩) (m_preS hE hM) rfl rfl hl.1 rfl (lv_room (Nat.le_of_ble_eq_true rfl)) dX9_next_58 ⟨Nat.le_of_ble_eq_true rfl, Nat.le_of_ble_eq_true rfl⟩) hM hS hA (fun r2 u H locs hw hM hS => ?_)
      obtain ⟨e_r2, eu⟩ := hw
      rw [eu] at hM
      subst e_r2
      refine lv_goto (tgt := 65) hx hb dX9_next_61 (by decide) ?_
      exact m_lret hx hb hr hlocks hM hS (Nat.le_refl _) (Nat.le_refl _) dX9_next_65 (by exact ⟨(by show _ = (if vI nn i then (if _ = 0 then _ else _) else _); rw [if_pos hv, hjc]; unfold gvAt; rw [hins]; exact (if_pos c_53).symm), (by show cRep E _ NO x (nn, ins, nf, fn, bk, rw, bd, (if vI nn i then _ else _), c2, c3, c4); rw [if_pos hv, hjc, eM3, eM2, eM1, ep0, eq0]; unfold gvAt; rw [hins, mUp_up]; have h1 := (hC.inst (pi' := pi) (on' := on) (ph' := ph) (le' := le) (fl' := (sGive ci kf pi on ph le (tb.map rw)).1) hiK hj hins); rw [va_up_id hins] at h1; exact (h1.scal hiK).rep), (by rw [eM3, eM2, eM1, ep0]; exact (((kept.rf.up hno.1).up hno.1).up nx))⟩)
  · rw [if_neg hv] at e_r1
    subst e_r1
    refine W.eq (g2 := F0 m 5 ls [.null]) rfl ?_
    refine lv_astore_nN (lv' := [(2, .null), (0, .ref x), (1, .int i)]) hx hb dX9_next_5 rfl hl (by decide) rfl (fun ls hl => ?_)
    refine lv_aload_nN hx hb dX9_next_6 rfl (lv_at hl 0 rfl) ?_
    refine lv_ifnonnullN hx hb dX9_next_7 ?_
    refine lv_aload_n hx hb dX9_next_10 rfl (lv_at hl 1 rfl) ?_
    refine lv_iconst (v := -1) hx hb dX9_next_11 (by decide) ?_
    refine m_put (ci := 7) (v := .int (-1)) (ty := .int) (C := RX9) (T := TX9) (N := 11) hx hb hts in_X9_next_X9 tyX9 tyX9_ok nmX9 hown hE hM hS g_x rfl 7 (by decide) (hts (.fieldLink RX9 53 "CallWays2" "latest" "I") (by decide +kernel)) (fun _ h9 => h9) rfl (by decide +kernel) rfl rfl (Nat.le_of_ble_eq_true rfl) dX9_next_12 (fun H locs hM hS => ?_)
    have hM : mOK E.1 (mA M sz) (mUp M x (mO 7 [.ref a1, .ref a2, .ref a3, .ref a4, .int (nI nn), .int (nI nf), .int bd, .int (-1), .int c2, .int c3, .int c4])) H := hM
    obtain ⟨M4, eM4⟩ : ∃ z, z = mUp M x (mO 7 [.ref a1, .ref a2, .ref a3, .ref a4, .int (nI nn), .int (nI nf), .int bd, .int (-1), .int c2, .int c3, .int c4]) := ⟨_, rfl⟩
    rw [← eM4] at hM
    have g_a1_ : M4 a1 = some (mQ E 4 12 fi) := by rw [eM4]; exact mUp_at (m_ne g_a1 g_x (by simp)) g_a1
    have g_a2_ : M4 a2 = some (mQ E 5 10 fb) := by rw [eM4]; exact mUp_at (m_ne g_a2 g_x (by simp)) g_a2
    have g_a3_ : M4 a3 = some (mQ E 6 8 ff) := by rw [eM4]; exact mUp_at (m_ne g_a3 g_x (by simp)) g_a3
    have g_a4_ : M4 a4 = some (mDb E 40 wt) := by rw [eM4]; exact mUp_at (m_ne g_a4 g_x (by simp)) g_a4
    have g_a1 := g_a1_
    have g_a2 := g_a2_
    have g_a3 := g_a3_
    have g_a4 := g_a4_
    have g_x : M4 x = some (mO 7 [.ref a1, .ref a2, .ref a3, .ref a4, .int (nI nn), .int (nI nf), .int bd, .int (-1), .int c2, .int c3, .int c4]) := by rw [eM4]; exact mUp_self _ _ _
    refine lv_lconst (v := 0) hx hb dX9_next_15 (by decide) ?_
    exact m_lret hx hb hr hlocks hM hS (Nat.le_refl _) (Nat.le_refl _) dX9_next_16 (by exact ⟨(if_neg hv).symm, (by show cRep E _ NO x (nn, ins, nf, fn, bk, rw, bd, (if vI nn i then _ else _), c2, c3, c4); rw [if_neg hv, eM4]; exact (hC.scal hiK).rep), (by rw [eM4]; exact kx nx)⟩)
