/-- a new instrument at a, its knobs at q -/
def newIns (E : mEnv) (M u : mMem) (ci a q : Nat) : Prop := M a = none ∧ M q = none ∧ a ≠ q ∧ u = mUp (mUp M q (mI E 4 (fun _ => 0))) a (mO ci [.ref q, .int 0, .int 0, .int 0, .double 0, .null, .int 0])
theorem mUp_swap {M : mMem} {a q : Nat} {d k o : va_E} (h : q ≠ a) : mUp (mUp (mUp M a d) q k) a o = mUp (mUp M q k) a o := by
  funext z
  by_cases h1 : z = a
  · simp [mUp, h1]
  · by_cases h2 : z = q
    · subst h2
      simp [mUp, h]
    · simp [mUp, h1, h2]
theorem mUp_none {M : mMem} {a q : Nat} {d : va_E} (h : mUp M a d q = none) : q ≠ a ∧ M q = none := by
  by_cases h1 : q = a
  · subst h1
    rw [mUp_self] at h
    cases h
  · exact ⟨h1, by rw [mUp_ne h1] at h; exact h⟩
theorem tab_out1 {x : Int32} {n : Nat} (hn : n < 2 ^ 31) (h : ∀ j, j < n → ¬ x = nI (j + 1)) : x.toInt < 1 ∨ (n : Int) < x.toInt := by
  by_cases h0 : x < 0
  · exact Or.inl (by have := Int32.lt_iff_toInt_lt.mp h0; simp at this; omega)
  · obtain ⟨j, hj, rfl⟩ := nI_of h0
    rw [nI_toInt hj]
    cases j with
    | zero => exact Or.inl (by decide)
    | succ j =>
      refine Or.inr ?_
      have : ¬ j < n := fun q => h j q rfl
      omega
/-- two new cells: the samples' object and their values -/
def newSam (E : mEnv) (M u : mMem) (a v : Nat) (lane : Int32) (n : Nat) (f : Nat → UInt64) : Prop := M a = none ∧ M v = none ∧ a ≠ v ∧ u = mUp (mUp M v (mDb E n f)) a (mO 5 [.int lane, .ref v])
def sBits (lane : Int32) (v : UInt64) : Int64 := if lane = 2 then (FP.d2f v).toInt32.toInt64 else if lane = 3 then v.toInt64 else FP.d2l v
/-- a sample that a lane can hold -/
def vOK (lane : Int32) (v : UInt64) : Prop := (lane = 0 ∧ ∃ n : Int32, v = FP.i2d n) ∨ (lane = 1 ∧ ∃ n : Int32, v = FP.i2d n) ∨ (lane = 2 ∧ ∃ f : UInt32, FP.Core.FFin f ∧ v = FP.f2d f) ∨ (lane = 3 ∧ FP.Core.DFin v)
theorem d2f_f2d' {f : UInt32} (hf : FP.Core.FFin f) : FP.d2f (FP.f2d f) = f := by
  rw [FP.d2f_core (f2d_fin' hf).notNaN, FP.f2d_core hf.notNaN]
  exact FP.Core.d2f_f2d hf.ne_nan
def sci (s : Int32) : Nat := if s = 1 then 3 else if s = 2 then 1 else if s = 3 then 0 else if s = 4 then 4 else 6
theorem in_X5_init_I : ∀ w ∈ wsX00 ++ wsX20 ++ wsX40 ++ wsX60 ++ wsX80, w ∈ wsX5_init := by decide +kernel
set_option maxHeartbeats 4000000 in
set_option maxRecDepth 100000 in
theorem c_X5_init (l : Launch) (E : mEnv) (M : mMem) (sz : Nat) (ci : Nat) (hci : insK ci) (h0 : Nat) (g_h0 : M h0 = some (mO ci [.null, .int 0, .int 0, .int 0, .double 0, .null, .int 0]))  : Met l yX5_init wsX5_init ({ frames := 1, cells := 1, slots := 4, locals := 12 }) (mPre E M sz [.ref h0]) (mQv E M sz (fun u => ∃ q, M q = none ∧ u = mUp (mUp M q (mI E 4 (fun _ => 0))) h0 (mO ci [.ref q, .int 0, .int 0, .int 0, .double 0, .null, .int 0]))) (1) (4) (mA M sz) := by
  refine m_met [.ref h0] (by decide) rfl (Nat.le_of_ble_eq_true rfl) ?_
  intro p e s m below meth c ls H eH hx hb hr hts hown hlocks hnm hml hsz hE hM hS hA hl
  have hl : lv_has ls 1 [(0, .ref h0)] := hl
  refine lv_aload_n hx hb dX5_init_0 rfl (lv_at hl 0 rfl) ?_
  refine W.objInit hx hb hown (hts (.methodLink RX5 3 objectInit) (by decide +kernel)) (hts (.instanceMethod objectInit) (by decide +kernel)) (hts (.code objectInit ⟨#[0xb1]⟩ 1 none) (by decide +kernel)) rfl (by rw [hml]; exact hl.1) rfl dX5_init_1 (Nat.le_of_ble_eq_true rfl) (Nat.le_of_ble_eq_true rfl) ?_
  refine W.eq (g2 := F0 m 4 ls []) rfl ?_
  refine lv_aload_n hx hb dX5_init_4 rfl (lv_at hl 0 rfl) ?_
  refine lv_iconst (v := 4) hx hb dX5_init_5 (by decide) ?_
  refine m_newI (N' := 4) hx hb (hts (.arrayClass .int) (by decide +kernel)) hE hM hS hA (by decide) (by decide) (by decide) (by show 0 + 1 ≤ 1; omega) (by show 0 + 4 ≤ 4; omega) dX5_init_6 (fun q1 H n_q1 hM hS => ?_)
  have hM : mOK E.1 (mA M sz) (mUp M q1 (mI E 4 (fun _ => 0))) H := hM
  obtain ⟨M1, eM1⟩ : ∃ z, z = mUp M q1 (mI E 4 (fun _ => 0)) := ⟨_, rfl⟩
  rw [← eM1] at hM
  have g_h0 : M1 h0 = some (mO ci [.null, .int 0, .int 0, .int 0, .double 0, .null, .int 0]) := by rw [eM1]; exact mUp_at (m_neN g_h0 n_q1) g_h0
  have g_q1 : M1 q1 = some (mI E 4 (fun _ => 0)) := by rw [eM1]; exact mUp_self _ _ _
  refine m_putFI (v := .ref q1) (ty := .array .int) hx hb hts in_X5_init_I hown hE hM hS g_h0 hci 0 (by decide) (hts (.fieldLink RX5 9 "CallWays2$Instrument" "knobs" "[I") (by decide +kernel)) (fun _ h9 => h9) rfl hnm rfl (by decide +kernel) rfl rfl (Nat.le_of_ble_eq_true rfl) dX5_init_8 (fun H locs hM hS => ?_)
  have hM : mOK E.1 (mA M sz) (mUp M1 h0 (mO ci [.ref q1, .int 0, .int 0, .int 0, .double 0, .null, .int 0])) H := hM
  obtain ⟨M2, eM2⟩ : ∃ z, z = mUp M1 h0 (mO ci [.ref q1, .int 0, .int 0, .int 0, .double 0, .null, .int 0]) := ⟨_, rfl⟩
  rw [← eM2] at hM
  have g_q1_ : M2 q1 = some (mI E 4 (fun _ => 0)) := by rw [eM2]; exact mUp_at (m_ne g_q1 g_h0 (by simp)) g_q1
  have g_q1 := g_q1_
  have g_h0 : M2 h0 = some (mO ci [.ref q1, .int 0, .int 0, .int 0, .double 0, .null, .int 0]) := by rw [eM2]; exact mUp_self _ _ _
  exact m_vret hx hb hr hlocks hM hS (by show 0 + 1 ≤ 1; omega) (by show 0 + 4 ≤ 4; omega) dX5_init_11 (by exact ⟨q1, n_q1, by rw [eM2, eM1]⟩)
set_option maxHeartbeats 4000000 in
set_option maxRecDepth 100000 in
theorem c_X8_init_6 (l : Launch) (E : mEnv) (M : mMem) (sz : Nat) (h0 : Nat) (g_h0 : M h0 = some (mO 6 [.null, .int 0, .int 0, .int 0, .double 0, .null, .int 0]))  : Met l yX8_init wsX8_init ({ frames := 2, cells := 1, slots := 4, locals := 32 }) (mPre E M sz [.ref h0]) (mQv E M sz (fun u => ∃ q, M q = none ∧ u = mUp (mUp M q (mI E 4 (fun _ => 0))) h0 (mO 6 [.ref q, .int 0, .int 0, .int 0, .double 0, .null, .int 0]))) (1) (4) (mA M sz) := by
  refine m_met [.ref h0] (by decide) rfl (Nat.le_of_ble_eq_true rfl) ?_
  intro p e s m below meth c ls H eH hx hb hr hts hown hlocks hnm hml hsz hE hM hS hA hl
  have hl : lv_has ls 1 [(0, .ref h0)] := hl
  refine lv_aload_n hx hb dX8_init_0 rfl (lv_at hl 0 rfl) ?_
  refine m_callv (va_runIN (As := []) (rest := []) ⟨hx, hb, hml, hown, hts⟩ (c_X5_init l E M H.size 6 (by unfold insK; decide) h0 g_h0) ⟨va_cnB 0 hts gX8_init_X5_init_n1 rfl rfl rfl (hE.2.2.1 (RX8, 1, yX5_init, RX9) (by decide)) (hts (.initialized RX5) (by decide +kernel)) (by decide +kernel) ⟨Nat.le_of_ble_eq_true rfl, Nat.le_of_ble_eq_true rfl⟩, rfl, (hts (.instanceMethod yX5_init) (by decide +kernel))⟩ (m_preI hE hM) rfl rfl hl.1 rfl (lv_room (Nat.le_of_ble_eq_true rfl)) dX8_init_1 ⟨(by show 0 + 1 ≤ 1; omega), (by show 0 + 4 ≤ 4; omega)⟩) hM hS hA (fun M2 H locs hw hM hS => ?_)
  exact m_vret hx hb hr hlocks hM hS (by show 0 + 1 ≤ 1; omega) (by show 0 + 4 ≤ 4; omega) dX8_init_4 (by exact hw)
set_option maxHeartbeats 4000000 in
set_option maxRecDepth 100000 in
theorem c_X8_init_3 (l : Launch) (E : mEnv) (M : mMem) (sz : Nat) (h0 : Nat) (g_h0 : M h0 = some (mO 3 [.null, .int 0, .int 0, .int 0, .double 0, .null, .int 0]))  : Met l yX8_init wsX8_init ({ frames := 2, cells := 1, slots := 4, locals := 32 }) (mPre E M sz [.ref h0]) (mQv E M sz (fun u => ∃ q, M q = none ∧ u = mUp (mUp M q (mI E 4 (fun _ => 0))) h0 (mO 3 [.ref q, .int 0, .int 0, .int 0, .double 0, .null, .int 0]))) (1) (4) (mA M sz) := by
  refine m_met [.ref h0] (by decide) rfl (Nat.le_of_ble_eq_true rfl) ?_
  intro p e s m below meth c ls H eH hx hb hr hts hown hlocks hnm hml hsz hE hM hS hA hl
  have hl : lv_has ls 1 [(0, .ref h0)] := hl
  refine lv_aload_n hx hb dX8_init_0 rfl (lv_at hl 0 rfl) ?_
  refine m_callv (va_runIN (As := []) (rest := []) ⟨hx, hb, hml, hown, hts⟩ (c_X5_init l E M H.size 3 (by unfold insK; decide) h0 g_h0) ⟨va_cnB 0 hts gX8_init_X5_init_n1 rfl rfl rfl (hE.2.2.1 (RX8, 1, yX5_init, RX9) (by decide)) (hts (.initialized RX5) (by decide +kernel)) (by decide +kernel) ⟨Nat.le_of_ble_eq_true rfl, Nat.le_of_ble_eq_true rfl⟩, rfl, (hts (.instanceMethod yX5_init) (by decide +kernel))⟩ (m_preI hE hM) rfl rfl hl.1 rfl (lv_room (Nat.le_of_ble_eq_true rfl)) dX8_init_1 ⟨(by show 0 + 1 ≤ 1; omega), (by show 0 + 4 ≤ 4; omega)⟩) hM hS hA (fun M2 H locs hw hM hS => ?_)
  exact m_vret hx hb hr hlocks hM hS (by show 0 + 1 ≤ 1; omega) (by show 0 + 4 ≤ 4; omega) dX8_init_4 (by exact hw)
set_option maxHeartbeats 4000000 in
set_option maxRecDepth 100000 in
theorem c_X2_init_1 (l : Launch) (E : mEnv) (M : mMem) (sz : Nat) (h0 : Nat) (g_h0 : M h0 = some (mO 1 [.null, .int 0, .int 0, .int 0, .double 0, .null, .int 0]))  : Met l yX2_init wsX2_init ({ frames := 2, cells := 1, slots := 4, locals := 32 }) (mPre E M sz [.ref h0]) (mQv E M sz (fun u => ∃ q, M q = none ∧ u = mUp (mUp M q (mI E 4 (fun _ => 0))) h0 (mO 1 [.ref q, .int 0, .int 0, .int 0, .double 0, .null, .int 0]))) (1) (4) (mA M sz) := by
  refine m_met [.ref h0] (by decide) rfl (Nat.le_of_ble_eq_true rfl) ?_
  intro p e s m below meth c ls H eH hx hb hr hts hown hlocks hnm hml hsz hE hM hS hA hl
  have hl : lv_has ls 1 [(0, .ref h0)] := hl
  refine lv_aload_n hx hb dX2_init_0 rfl (lv_at hl 0 rfl) ?_
  refine m_callv (va_runIN (As := []) (rest := []) ⟨hx, hb, hml, hown, hts⟩ (c_X5_init l E M H.size 1 (by unfold insK; decide) h0 g_h0) ⟨va_cnB 0 hts gX2_init_X5_init_n3 rfl rfl rfl (hE.2.2.1 (RX2, 3, yX5_init, RX9) (by decide)) (hts (.initialized RX5) (by decide +kernel)) (by decide +kernel) ⟨Nat.le_of_ble_eq_true rfl, Nat.le_of_ble_eq_true rfl⟩, rfl, (hts (.instanceMethod yX5_init) (by decide +kernel))⟩ (m_preI hE hM) rfl rfl hl.1 rfl (lv_room (Nat.le_of_ble_eq_true rfl)) dX2_init_1 ⟨(by show 0 + 1 ≤ 1; omega), (by show 0 + 4 ≤ 4; omega)⟩) hM hS hA (fun M2 H locs hw hM hS => ?_)
  exact m_vret hx hb hr hlocks hM hS (by show 0 + 1 ≤ 1; omega) (by show 0 + 4 ≤ 4; omega) dX2_init_4 (by exact hw)
set_option maxHeartbeats 4000000 in
set_option maxRecDepth 100000 in
theorem c_X2_init_0 (l : Launch) (E : mEnv) (M : mMem) (sz : Nat) (h0 : Nat) (g_h0 : M h0 = some (mO 0 [.null, .int 0, .int 0, .int 0, .double 0, .null, .int 0]))  : Met l yX2_init wsX2_init ({ frames := 2, cells := 1, slots := 4, locals := 32 }) (mPre E M sz [.ref h0]) (mQv E M sz (fun u => ∃ q, M q = none ∧ u = mUp (mUp M q (mI E 4 (fun _ => 0))) h0 (mO 0 [.ref q, .int 0, .int 0, .int 0, .double 0, .null, .int 0]))) (1) (4) (mA M sz) := by
  refine m_met [.ref h0] (by decide) rfl (Nat.le_of_ble_eq_true rfl) ?_
  intro p e s m below meth c ls H eH hx hb hr hts hown hlocks hnm hml hsz hE hM hS hA hl
  have hl : lv_has ls 1 [(0, .ref h0)] := hl
  refine lv_aload_n hx hb dX2_init_0 rfl (lv_at hl 0 rfl) ?_
  refine m_callv (va_runIN (As := []) (rest := []) ⟨hx, hb, hml, hown, hts⟩ (c_X5_init l E M H.size 0 (by unfold insK; decide) h0 g_h0) ⟨va_cnB 0 hts gX2_init_X5_init_n3 rfl rfl rfl (hE.2.2.1 (RX2, 3, yX5_init, RX9) (by decide)) (hts (.initialized RX5) (by decide +kernel)) (by decide +kernel) ⟨Nat.le_of_ble_eq_true rfl, Nat.le_of_ble_eq_true rfl⟩, rfl, (hts (.instanceMethod yX5_init) (by decide +kernel))⟩ (m_preI hE hM) rfl rfl hl.1 rfl (lv_room (Nat.le_of_ble_eq_true rfl)) dX2_init_1 ⟨(by show 0 + 1 ≤ 1; omega), (by show 0 + 4 ≤ 4; omega)⟩) hM hS hA (fun M2 H locs hw hM hS => ?_)
  exact m_vret hx hb hr hlocks hM hS (by show 0 + 1 ≤ 1; omega) (by show 0 + 4 ≤ 4; omega) dX2_init_4 (by exact hw)
set_option maxHeartbeats 4000000 in
set_option maxRecDepth 100000 in
theorem c_X6_init_4 (l : Launch) (E : mEnv) (M : mMem) (sz : Nat) (h0 : Nat) (g_h0 : M h0 = some (mO 4 [.null, .int 0, .int 0, .int 0, .double 0, .null, .int 0]))  : Met l yX6_init wsX6_init ({ frames := 2, cells := 1, slots := 4, locals := 32 }) (mPre E M sz [.ref h0]) (mQv E M sz (fun u => ∃ q, M q = none ∧ u = mUp (mUp M q (mI E 4 (fun _ => 0))) h0 (mO 4 [.ref q, .int 0, .int 0, .int 0, .double 0, .null, .int 0]))) (1) (4) (mA M sz) := by
  refine m_met [.ref h0] (by decide) rfl (Nat.le_of_ble_eq_true rfl) ?_
  intro p e s m below meth c ls H eH hx hb hr hts hown hlocks hnm hml hsz hE hM hS hA hl
  have hl : lv_has ls 1 [(0, .ref h0)] := hl
  refine lv_aload_n hx hb dX6_init_0 rfl (lv_at hl 0 rfl) ?_
  refine m_callv (va_runIN (As := []) (rest := []) ⟨hx, hb, hml, hown, hts⟩ (c_X5_init l E M H.size 4 (by unfold insK; decide) h0 g_h0) ⟨va_cnB 0 hts gX6_init_X5_init_n3 rfl rfl rfl (hE.2.2.1 (RX6, 3, yX5_init, RX9) (by decide)) (hts (.initialized RX5) (by decide +kernel)) (by decide +kernel) ⟨Nat.le_of_ble_eq_true rfl, Nat.le_of_ble_eq_true rfl⟩, rfl, (hts (.instanceMethod yX5_init) (by decide +kernel))⟩ (m_preI hE hM) rfl rfl hl.1 rfl (lv_room (Nat.le_of_ble_eq_true rfl)) dX6_init_1 ⟨(by show 0 + 1 ≤ 1; omega), (by show 0 + 4 ≤ 4; omega)⟩) hM hS hA (fun M2 H locs hw hM hS => ?_)
  exact m_vret hx hb hr hlocks hM hS (by show 0 + 1 ≤ 1; omega) (by show 0 + 4 ≤ 4; omega) dX6_init_4 (by exact hw)
set_option maxHeartbeats 4000000 in
set_option maxRecDepth 100000 in
theorem c_X4_init_3 (l : Launch) (E : mEnv) (M : mMem) (sz : Nat) (h0 : Nat) (g_h0 : M h0 = some (mO 3 [.null, .int 0, .int 0, .int 0, .double 0, .null, .int 0]))  : Met l yX4_init wsX4_init ({ frames := 3, cells := 1, slots := 4, locals := 52 }) (mPre E M sz [.ref h0]) (mQv E M sz (fun u => ∃ q, M q = none ∧ u = mUp (mUp M q (mI E 4 (fun _ => 0))) h0 (mO 3 [.ref q, .int 0, .int 0, .int 0, .double 0, .null, .int 0]))) (1) (4) (mA M sz) := by
  refine m_met [.ref h0] (by decide) rfl (Nat.le_of_ble_eq_true rfl) ?_
  intro p e s m below meth c ls H eH hx hb hr hts hown hlocks hnm hml hsz hE hM hS hA hl
  have hl : lv_has ls 1 [(0, .ref h0)] := hl
  refine lv_aload_n hx hb dX4_init_0 rfl (lv_at hl 0 rfl) ?_
  refine m_callv (va_runIN (As := []) (rest := []) ⟨hx, hb, hml, hown, hts⟩ (c_X8_init_3 l E M H.size h0 g_h0) ⟨va_cnB 0 hts gX4_init_X8_init_n1 rfl rfl rfl (hE.2.2.1 (RX4, 1, yX8_init, RX9) (by decide)) (hts (.initialized RX8) (by decide +kernel)) (by decide +kernel) ⟨Nat.le_of_ble_eq_true rfl, Nat.le_of_ble_eq_true rfl⟩, rfl, (hts (.instanceMethod yX8_init) (by decide +kernel))⟩ (m_preI hE hM) rfl rfl hl.1 rfl (lv_room (Nat.le_of_ble_eq_true rfl)) dX4_init_1 ⟨(by show 0 + 1 ≤ 1; omega), (by show 0 + 4 ≤ 4; omega)⟩) hM hS hA (fun M2 H locs hw hM hS => ?_)
  exact m_vret hx hb hr hlocks hM hS (by show 0 + 1 ≤ 1; omega) (by show 0 + 4 ≤ 4; omega) dX4_init_4 (by exact hw)
set_option maxHeartbeats 4000000 in
set_option maxRecDepth 100000 in
theorem c_X0_init_0 (l : Launch) (E : mEnv) (M : mMem) (sz : Nat) (h0 : Nat) (g_h0 : M h0 = some (mO 0 [.null, .int 0, .int 0, .int 0, .double 0, .null, .int 0]))  : Met l yX0_init wsX0_init ({ frames := 3, cells := 1, slots := 4, locals := 52 }) (mPre E M sz [.ref h0]) (mQv E M sz (fun u => ∃ q, M q = none ∧ u = mUp (mUp M q (mI E 4 (fun _ => 0))) h0 (mO 0 [.ref q, .int 0, .int 0, .int 0, .double 0, .null, .int 0]))) (1) (4) (mA M sz) := by
  refine m_met [.ref h0] (by decide) rfl (Nat.le_of_ble_eq_true rfl) ?_
  intro p e s m below meth c ls H eH hx hb hr hts hown hlocks hnm hml hsz hE hM hS hA hl
  have hl : lv_has ls 1 [(0, .ref h0)] := hl
  refine lv_aload_n hx hb dX0_init_0 rfl (lv_at hl 0 rfl) ?_
  refine m_callv (va_runIN (As := []) (rest := []) ⟨hx, hb, hml, hown, hts⟩ (c_X2_init_0 l E M H.size h0 g_h0) ⟨va_cnB 0 hts gX0_init_X2_init_n3 rfl rfl rfl (hE.2.2.1 (RX0, 3, yX2_init, RX9) (by decide)) (hts (.initialized RX2) (by decide +kernel)) (by decide +kernel) ⟨Nat.le_of_ble_eq_true rfl, Nat.le_of_ble_eq_true rfl⟩, rfl, (hts (.instanceMethod yX2_init) (by decide +kernel))⟩ (m_preI hE hM) rfl rfl hl.1 rfl (lv_room (Nat.le_of_ble_eq_true rfl)) dX0_init_1 ⟨(by show 0 + 1 ≤ 1; omega), (by show 0 + 4 ≤ 4; omega)⟩) hM hS hA (fun M2 H locs hw hM hS => ?_)
  exact m_vret hx hb hr hlocks hM hS (by show 0 + 1 ≤ 1; omega) (by show 0 + 4 ≤ 4; omega) dX0_init_4 (by exact hw)
theorem in_X9_newInstrument_X0 : ∀ w ∈ wsX00, w ∈ wsX9_newInstrument := by decide +kernel
theorem in_X9_newInstrument_X2 : ∀ w ∈ wsX20, w ∈ wsX9_newInstrument := by decide +kernel
theorem in_X9_newInstrument_X4 : ∀ w ∈ wsX40, w ∈ wsX9_newInstrument := by decide +kernel
theorem in_X9_newInstrument_X6 : ∀ w ∈ wsX60, w ∈ wsX9_newInstrument := by decide +kernel
theorem in_X9_newInstrument_X8 : ∀ w ∈ wsX80, w ∈ wsX9_newInstrument := by decide +kernel
set_option maxHeartbeats 4000000 in
set_option maxRecDepth 100000 in
theorem c_X9_newInstrument (l : Launch) (E : mEnv) (M : mMem) (sz : Nat) (sort : Int32)   : Met l yX9_newInstrument wsX9_newInstrument ({ frames := 4, cells := 2, slots := 11, locals := 72 }) (mPre E M sz [.int sort]) (mQq E M sz (fun r u => ∃ (ci a q : Nat), r = some a ∧ ci = sci sort ∧ newIns E M u ci a q)) (2) (11) (mA M sz) := by
  refine m_met [.int sort] (by decide) rfl (Nat.le_of_ble_eq_true rfl) ?_
  intro p e s m below meth c ls H eH hx hb hr hts hown hlocks hnm hml hsz hE hM hS hA hl
  have hl : lv_has ls 1 [(0, .int sort)] := hl
  refine lv_iload_n hx hb dX9_newInstrument_0 rfl (lv_at hl 0 rfl) ?_
  by_cases s_1 : sort = 1
  · refine lv_tableIn (off := 31) (tgt := 32) hx hb dX9_newInstrument_1 (by rw [s_1]; decide) (by rw [s_1]; decide) (by rw [s_1]; rfl) (by decide) ?_
    refine m_new (ci := 3) (fs := [.null, .int 0, .int 0, .int 0, .double 0, .null, .int 0]) (C := RX4) (T := TX4) (N := 7) hx hb hts in_X9_newInstrument_X4 tyX4 tyX4_ok hown (hts (.classLink RX9 176 RX4) (by decide +kernel)) (hts (.instantiable RX4 7) (by decide +kernel)) (hts (.initialized RX4) (by decide +kernel)) hE hM hS hA rfl (fun j hj => by rcases (show j = 0 ∨ j = 1 ∨ j = 2 ∨ j = 3 ∨ j = 4 ∨ j = 5 ∨ j = 6 by omega) with rfl | rfl | rfl | rfl | rfl | rfl | rfl <;> rfl) (by show 0 + 1 ≤ 2; omega) (by show 0 + 7 ≤ 11; omega) dX9_newInstrument_32 (fun a1 H n_a1 hM hS => ?_)
    have hM : mOK E.1 (mA M sz) (mUp M a1 (mO 3 [.null, .int 0, .int 0, .int 0, .double 0, .null, .int 0])) H := hM
    obtain ⟨M1, eM1⟩ : ∃ z, z = mUp M a1 (mO 3 [.null, .int 0, .int 0, .int 0, .double 0, .null, .int 0]) := ⟨_, rfl⟩
    rw [← eM1] at hM
    have g_a1 : M1 a1 = some (mO 3 [.null, .int 0, .int 0, .int 0, .double 0, .null, .int 0]) := by rw [eM1]; exact mUp_self _ _ _
    refine lv_dup hx hb dX9_newInstrument_35 rfl ?_
    refine m_callv (va_runIN (As := []) (rest := [.ref a1]) ⟨hx, hb, hml, hown, hts⟩ (c_X4_init_3 l E M1 H.size a1 g_a1) ⟨va_cnB 0 hts gX9_newInstrument_X4_init_n178 rfl rfl rfl (hE.2.2.1 (RX9, 178, yX4_init, RX9) (by decide)) (hts (.initialized RX4) (by decide +kernel)) (by decide +kernel) ⟨Nat.le_of_ble_eq_true rfl, Nat.le_of_ble_eq_true rfl⟩, rfl, (hts (.instanceMethod yX4_init) (by decide +kernel))⟩ (m_preI hE hM) rfl rfl hl.1 rfl (lv_room (Nat.le_of_ble_eq_true rfl)) dX9_newInstrument_36 ⟨(by show 0 + 1 + 1 ≤ 2; omega), (by show 0 + 7 + 4 ≤ 11; omega)⟩) hM hS hA (fun M3 H locs hw hM hS => ?_)
    obtain ⟨q1, hq1, eq1⟩ := hw
    exact m_qret (some a1) hx hb hr hlocks hM hS (by show 0 + 1 + 1 ≤ 2; omega) (by show 0 + 7 + 4 ≤ 11; omega) dX9_newInstrument_39 (by rw [eM1] at hq1 eq1; obtain ⟨hne, hq2⟩ := mUp_none hq1; rw [mUp_swap hne] at eq1; exact ⟨3, a1, q1, rfl, by simp [sci, *], n_a1, hq2, hne.symm, eq1⟩)
  by_cases s_2 : sort = 2
  · refine lv_tableIn (off := 39) (tgt := 40) hx hb dX9_newInstrument_1 (by rw [s_2]; decide) (by rw [s_2]; decide) (by rw [s_2]; rfl) (by decide) ?_
    refine m_new (ci := 1) (fs := [.null, .int 0, .int 0, .int 0, .double 0, .null, .int 0]) (C := RX2) (T := TX2) (N := 7) hx hb hts in_X9_newInstrument_X2 tyX2 tyX2_ok hown (hts (.classLink RX9 179 RX2) (by decide +kernel)) (hts (.instantiable RX2 7) (by decide +kernel)) (hts (.initialized RX2) (by decide +kernel)) hE hM hS hA rfl (fun j hj => by rcases (show j = 0 ∨ j = 1 ∨ j = 2 ∨ j = 3 ∨ j = 4 ∨ j = 5 ∨ j = 6 by omega) with rfl | rfl | rfl | rfl | rfl | rfl | rfl <;> rfl) (by show 0 + 1 ≤ 2; omega) (by show 0 + 7 ≤ 11; omega) dX9_newInstrument_40 (fun a1 H n_a1 hM hS => ?_)
    have hM : mOK E.1 (mA M sz) (mUp M a1 (mO 1 [.null, .int 0, .int 0, .int 0, .double 0, .null, .int 0])) H := hM
    obtain ⟨M4, eM4⟩ : ∃ z, z = mUp M a1 (mO 1 [.null, .int 0, .int 0, .int 0, .double 0, .null, .int 0]) := ⟨_, rfl⟩
    rw [← eM4] at hM
    have g_a1 : M4 a1 = some (mO 1 [.null, .int 0, .int 0, .int 0, .double 0, .null, .int 0]) := by rw [eM4]; exact mUp_self _ _ _
    refine lv_dup hx hb dX9_newInstrument_43 rfl ?_
    refine m_callv (va_runIN (As := []) (rest := [.ref a1]) ⟨hx, hb, hml, hown, hts⟩ (c_X2_init_1 l E M4 H.size a1 g_a1) ⟨va_cnB 0 hts gX9_newInstrument_X2_init_n181 rfl rfl rfl (hE.2.2.1 (RX9, 181, yX2_init, RX9) (by decide)) (hts (.initialized RX2) (by decide +kernel)) (by decide +kernel) ⟨Nat.le_of_ble_eq_true rfl, Nat.le_of_ble_eq_true rfl⟩, rfl, (hts (.instanceMethod yX2_init) (by decide +kernel))⟩ (m_preI hE hM) rfl rfl hl.1 rfl (lv_room (Nat.le_of_ble_eq_true rfl)) dX9_newInstrument_44 ⟨(by show 0 + 1 + 1 ≤ 2; omega), (by show 0 + 7 + 4 ≤ 11; omega)⟩) hM hS hA (fun M6 H locs hw hM hS => ?_)
    obtain ⟨q1, hq1, eq1⟩ := hw
    exact m_qret (some a1) hx hb hr hlocks hM hS (by show 0 + 1 + 1 ≤ 2; omega) (by show 0 + 7 + 4 ≤ 11; omega) dX9_newInstrument_47 (by rw [eM4] at hq1 eq1; obtain ⟨hne, hq2⟩ := mUp_none hq1; rw [mUp_swap hne] at eq1; exact ⟨1, a1, q1, rfl, by simp [sci, *], n_a1, hq2, hne.symm, eq1⟩)
  by_cases s_3 : sort = 3
  · refine lv_tableIn (off := 47) (tgt := 48) hx hb dX9_newInstrument_1 (by rw [s_3]; decide) (by rw [s_3]; decide) (by rw [s_3]; rfl) (by decide) ?_
    refine m_new (ci := 0) (fs := [.null, .int 0, .int 0, .int 0, .double 0, .null, .int 0]) (C := RX0) (T := TX0) (N := 7) hx hb hts in_X9_newInstrument_X0 tyX0 tyX0_ok hown (hts (.classLink RX9 182 RX0) (by decide +kernel)) (hts (.instantiable RX0 7) (by decide +kernel)) (hts (.initialized RX0) (by decide +kernel)) hE hM hS hA rfl (fun j hj => by rcases (show j = 0 ∨ j = 1 ∨ j = 2 ∨ j = 3 ∨ j = 4 ∨ j = 5 ∨ j = 6 by omega) with rfl | rfl | rfl | rfl | rfl | rfl | rfl <;> rfl) (by show 0 + 1 ≤ 2; omega) (by show 0 + 7 ≤ 11; omega) dX9_newInstrument_48 (fun a1 H n_a1 hM hS => ?_)
    have hM : mOK E.1 (mA M sz) (mUp M a1 (mO 0 [.null, .int 0, .int 0, .int 0, .double 0, .null, .int 0])) H := hM
    obtain ⟨M7, eM7⟩ : ∃ z, z = mUp M a1 (mO 0 [.null, .int 0, .int 0, .int 0, .double 0, .null, .int 0]) := ⟨_, rfl⟩
    rw [← eM7] at hM
    have g_a1 : M7 a1 = some (mO 0 [.null, .int 0, .int 0, .int 0, .double 0, .null, .int 0]) := by rw [eM7]; exact mUp_self _ _ _
    refine lv_dup hx hb dX9_newInstrument_51 rfl ?_
    refine m_callv (va_runIN (As := []) (rest := [.ref a1]) ⟨hx, hb, hml, hown, hts⟩ (c_X0_init_0 l E M7 H.size a1 g_a1) ⟨va_cnB 0 hts gX9_newInstrument_X0_init_n184 rfl rfl rfl (hE.2.2.1 (RX9, 184, yX0_init, RX9) (by decide)) (hts (.initialized RX0) (by decide +kernel)) (by decide +kernel) ⟨Nat.le_of_ble_eq_true rfl, Nat.le_of_ble_eq_true rfl⟩, rfl, (hts (.instanceMethod yX0_init) (by decide +kernel))⟩ (m_preI hE hM) rfl rfl hl.1 rfl (lv_room (Nat.le_of_ble_eq_true rfl)) dX9_newInstrument_52 ⟨(by show 0 + 1 + 1 ≤ 2; omega), (by show 0 + 7 + 4 ≤ 11; omega)⟩) hM hS hA (fun M9 H locs hw hM hS => ?_)
    obtain ⟨q1, hq1, eq1⟩ := hw
    exact m_qret (some a1) hx hb hr hlocks hM hS (by show 0 + 1 + 1 ≤ 2; omega) (by show 0 + 7 + 4 ≤ 11; omega) dX9_newInstrument_55 (by rw [eM7] at hq1 eq1; obtain ⟨hne, hq2⟩ := mUp_none hq1; rw [mUp_swap hne] at eq1; exact ⟨0, a1, q1, rfl, by simp [sci, *], n_a1, hq2, hne.symm, eq1⟩)
  by_cases s_4 : sort = 4
  · refine lv_tableIn (off := 55) (tgt := 56) hx hb dX9_newInstrument_1 (by rw [s_4]; decide) (by rw [s_4]; decide) (by rw [s_4]; rfl) (by decide) ?_
    refine m_new (ci := 4) (fs := [.null, .int 0, .int 0, .int 0, .double 0, .null, .int 0]) (C := RX6) (T := TX6) (N := 7) hx hb hts in_X9_newInstrument_X6 tyX6 tyX6_ok hown (hts (.classLink RX9 185 RX6) (by decide +kernel)) (hts (.instantiable RX6 7) (by decide +kernel)) (hts (.initialized RX6) (by decide +kernel)) hE hM hS hA rfl (fun j hj => by rcases (show j = 0 ∨ j = 1 ∨ j = 2 ∨ j = 3 ∨ j = 4 ∨ j = 5 ∨ j = 6 by omega) with rfl | rfl | rfl | rfl | rfl | rfl | rfl <;> rfl) (by show 0 + 1 ≤ 2; omega) (by show 0 + 7 ≤ 11; omega) dX9_newInstrument_56 (fun a1 H n_a1 hM hS => ?_)
    have hM : mOK E.1 (mA M sz) (mUp M a1 (mO 4 [.null, .int 0, .int 0, .int 0, .double 0, .null, .int 0])) H := hM
    obtain ⟨M10, eM10⟩ : ∃ z, z = mUp M a1 (mO 4 [.null, .int 0, .int 0, .int 0, .double 0, .null, .int 0]) := ⟨_, rfl⟩
    rw [← eM10] at hM
    have g_a1 : M10 a1 = some (mO 4 [.null, .int 0, .int 0, .int 0, .double 0, .null, .int 0]) := by rw [eM10]; exact mUp_self _ _ _
    refine lv_dup hx hb dX9_newInstrument_59 rfl ?_
    refine m_callv (va_runIN (As := []) (rest := [.ref a1]) ⟨hx, hb, hml, hown, hts⟩ (c_X6_init_4 l E M10 H.size a1 g_a1) ⟨va_cnB 0 hts gX9_newInstrument_X6_init_n187 rfl rfl rfl (hE.2.2.1 (RX9, 187, yX6_init, RX9) (by decide)) (hts (.initialized RX6) (by decide +kernel)) (by decide +kernel) ⟨Nat.le_of_ble_eq_true rfl, Nat.le_of_ble_eq_true rfl⟩, rfl, (hts (.instanceMethod yX6_init) (by decide +kernel))⟩ (m_preI hE hM) rfl rfl hl.1 rfl (lv_room (Nat.le_of_ble_eq_true rfl)) dX9_newInstrument_60 ⟨(by show 0 + 1 + 1 ≤ 2; omega), (by show 0 + 7 + 4 ≤ 11; omega)⟩) hM hS hA (fun M12 H locs hw hM hS => ?_)
    obtain ⟨q1, hq1, eq1⟩ := hw
    exact m_qret (some a1) hx hb hr hlocks hM hS (by show 0 + 1 + 1 ≤ 2; omega) (by show 0 + 7 + 4 ≤ 11; omega) dX9_newInstrument_63 (by rw [eM10] at hq1 eq1; obtain ⟨hne, hq2⟩ := mUp_none hq1; rw [mUp_swap hne] at eq1; exact ⟨4, a1, q1, rfl, by simp [sci, *], n_a1, hq2, hne.symm, eq1⟩)
  refine lv_tableOut (tgt := 64) hx hb dX9_newInstrument_1 (tab_out1 (x := sort) (n := 4) (by decide) (fun j hj => match j, hj with | 0, _ => s_1 | 1, _ => s_2 | 2, _ => s_3 | 3, _ => s_4 | j + 4, h => absurd h (by omega))) (by decide) ?_
  refine m_new (ci := 6) (fs := [.null, .int 0, .int 0, .int 0, .double 0, .null, .int 0]) (C := RX8) (T := TX8) (N := 7) hx hb hts in_X9_newInstrument_X8 tyX8 tyX8_ok hown (hts (.classLink RX9 188 RX8) (by decide +kernel)) (hts (.instantiable RX8 7) (by decide +kernel)) (hts (.initialized RX8) (by decide +kernel)) hE hM hS hA rfl (fun j hj => by rcases (show j = 0 ∨ j = 1 ∨ j = 2 ∨ j = 3 ∨ j = 4 ∨ j = 5 ∨ j = 6 by omega) with rfl | rfl | rfl | rfl | rfl | rfl | rfl <;> rfl) (by show 0 + 1 ≤ 2; omega) (by show 0 + 7 ≤ 11; omega) dX9_newInstrument_64 (fun a1 H n_a1 hM hS => ?_)
  have hM : mOK E.1 (mA M sz) (mUp M a1 (mO 6 [.null, .int 0, .int 0, .int 0, .double 0, .null, .int 0])) H := hM
  obtain ⟨M13, eM13⟩ : ∃ z, z = mUp M a1 (mO 6 [.null, .int 0, .int 0, .int 0, .double 0, .null, .int 0]) := ⟨_, rfl⟩
  rw [← eM13] at hM
  have g_a1 : M13 a1 = some (mO 6 [.null, .int 0, .int 0, .int 0, .double 0, .null, .int 0]) := by rw [eM13]; exact mUp_self _ _ _
  refine lv_dup hx hb dX9_newInstrument_67 rfl ?_
  refine m_callv (va_runIN (As := []) (rest := [.ref a1]) ⟨hx, hb, hml, hown, hts⟩ (c_X8_init_6 l E M13 H.size a1 g_a1) ⟨va_cnB 0 hts gX9_newInstrument_X8_init_n190 rfl rfl rfl (hE.2.2.1 (RX9, 190, yX8_init, RX9) (by decide)) (hts (.initialized RX8) (by decide +kernel)) (by decide +kernel) ⟨Nat.le_of_ble_eq_true rfl, Nat.le_of_ble_eq_true rfl⟩, rfl, (hts (.instanceMethod yX8_init) (by decide +kernel))⟩ (m_preI hE hM) rfl rfl hl.1 rfl (lv_room (Nat.le_of_ble_eq_true rfl)) dX9_newInstrument_68 ⟨(by show 0 + 1 + 1 ≤ 2; omega), (by show 0 + 7 + 4 ≤ 11; omega)⟩) hM hS hA (fun M15 H locs hw hM hS => ?_)
  obtain ⟨q1, hq1, eq1⟩ := hw
  exact m_qret (some a1) hx hb hr hlocks hM hS (by show 0 + 1 + 1 ≤ 2; omega) (by show 0 + 7 + 4 ≤ 11; omega) dX9_newInstrument_71 (by rw [eM13] at hq1 eq1; obtain ⟨hne, hq2⟩ := mUp_none hq1; rw [mUp_swap hne] at eq1; exact ⟨6, a1, q1, rfl, by simp [sci, *], n_a1, hq2, hne.symm, eq1⟩)
theorem in_X7_bits_X7 : ∀ w ∈ wsX70, w ∈ wsX7_bits := by decide +kernel
set_option maxHeartbeats 4000000 in
set_option maxRecDepth 100000 in
theorem c_X7_bits (l : Launch) (E : mEnv) (M : mMem) (sz : Nat) (h0 v n : Nat) (lane : Int32) (f : Nat → UInt64) (i : Int32) (hin : vp_in i n) (hv : vOK lane (f i.toNatClampNeg)) (g_h0 : M h0 = some (mO 5 [.int lane, .ref v])) (g_v : M v = some (mDb E n f))  : Met l yX7_bits wsX7_bits ({ frames := 2, cells := 0, slots := 0, locals := 47 }) (mPre E M sz [.ref h0, .int i]) (mQl E M sz (fun r u => r = sBits lane (f i.toNatClampNeg) ∧ u = M)) (0) (0) (mA M sz) := by
  refine m_met [.ref h0, .int i] (by decide) rfl (Nat.le_of_ble_eq_true rfl) ?_
  intro p e s m below meth c ls H eH hx hb hr hts hown hlocks hnm hml hsz hE hM hS hA hl
  have hl : lv_has ls 2 [(0, .ref h0), (1, .int i)] := hl
  refine lv_aload_n hx hb dX7_bits_0 rfl (lv_at hl 0 rfl) ?_
  refine m_get (ci := 5) (v := .int lane) (C := RX7) (T := TX7) (N := 2) hx hb hts in_X7_bits_X7 hown hE hM g_h0 rfl 0 (by decide) (hts (.fieldLink RX7 9 "CallWays2$Samples" "lane" "I") (by decide +kernel)) (fun _ h9 => h9) rfl dX7_bits_1 ?_
  rcases hv with ⟨rfl, hv⟩ | ⟨rfl, hv⟩ | ⟨rfl, fl, hf, hv⟩ | ⟨rfl, hv⟩
  · refine lv_lookup (off := 49) (tgt := 53) hx hb dX7_bits_4 (by decide) (by decide) (by decide) ?_
    refine lv_aload_n hx hb dX7_bits_53 rfl (lv_at hl 0 rfl) ?_
    refine m_get (ci := 5) (v := .ref v) (C := RX7) (T := TX7) (N := 2) hx hb hts in_X7_bits_X7 hown hE hM g_h0 rfl 1 (by decide) (hts (.fieldLink RX7 15 "CallWays2$Samples" "values" "[D") (by decide +kernel)) (fun _ h9 => h9) rfl dX7_bits_54 ?_
    refine lv_iload_n hx hb dX7_bits_57 rfl (lv_at hl 1 rfl) ?_
    refine m_dald hx hb hE hM g_v (by assumption) dX7_bits_58 ?_
    refine lv_d2l hx hb dX7_bits_59 ?_
    exact m_lret hx hb hr hlocks hM hS (Nat.le_refl _) (Nat.le_refl _) dX7_bits_60 (by exact ⟨rfl, rfl⟩)
  · refine lv_lookup (off := 49) (tgt := 53) hx hb dX7_bits_4 (by decide) (by decide) (by decide) ?_
    refine lv_aload_n hx hb dX7_bits_53 rfl (lv_at hl 0 rfl) ?_
    refine m_get (ci := 5) (v := .ref v) (C := RX7) (T := TX7) (N := 2) hx hb hts in_X7_bits_X7 hown hE hM g_h0 rfl 1 (by decide) (hts (.fieldLink RX7 15 "CallWays2$Samples" "values" "[D") (by decide +kernel)) (fun _ h9 => h9) rfl dX7_bits_54 ?_
    refine lv_iload_n hx hb dX7_bits_57 rfl (lv_at hl 1 rfl) ?_
    refine m_dald hx hb hE hM g_v (by assumption) dX7_bits_58 ?_
    refine lv_d2l hx hb dX7_bits_59 ?_
    exact m_lret hx hb hr hlocks hM hS (Nat.le_refl _) (Nat.le_refl _) dX7_bits_60 (by exact ⟨rfl, rfl⟩)
  · refine lv_lookup (off := 28) (tgt := 32) hx hb dX7_bits_4 (by decide) (by decide) (by decide) ?_
    refine lv_aload_n hx hb dX7_bits_32 rfl (lv_at hl 0 rfl) ?_
    refine m_get (ci := 5) (v := .ref v) (C := RX7) (T := TX7) (N := 2) hx hb hts in_X7_bits_X7 hown hE hM g_h0 rfl 1 (by decide) (hts (.fieldLink RX7 15 "CallWays2$Samples" "values" "[D") (by decide +kernel)) (fun _ h9 => h9) rfl dX7_bits_33 ?_
    refine lv_iload_n hx hb dX7_bits_36 rfl (lv_at hl 1 rfl) ?_
    refine m_dald hx hb hE hM g_v (by assumption) dX7_bits_37 ?_
    rw [show f i.toNatClampNeg = FP.f2d fl from hv]
    refine m_calli (va_runS (As := [.double (FP.f2d fl)]) (rest := []) ⟨hx, hb, hml, hown, hts⟩ (c_X1_ofFloat l E M H.size fl hf) (va_cwS 1 hts gX7_bits_X1_ofFloat rfl rfl rfl (by decide +kernel) ⟨Nat.le_of_ble_eq_true rfl, Nat.le_of_ble_eq_true rfl⟩) (m_preS hE hM) rfl rfl hl.1 rfl (lv_room (Nat.le_of_ble_eq_true rfl)) dX7_bits_38 ⟨Nat.le_of_ble_eq_true rfl, Nat.le_of_ble_eq_true rfl⟩) hM hS hA (fun r1 u H locs hw hM hS => ?_)
    obtain ⟨e_r1, eu⟩ := hw
    rw [eu] at hM
    subst e_r1
    refine lv_i2l hx hb dX7_bits_41 rfl ?_
    exact m_lret hx hb hr hlocks hM hS (Nat.le_refl _) (Nat.le_refl _) dX7_bits_42 (by refine ⟨?_, rfl⟩; show _ = (FP.d2f (FP.f2d fl)).toInt32.toInt64; rw [d2f_f2d' hf])
  · refine lv_lookup (off := 39) (tgt := 43) hx hb dX7_bits_4 (by decide) (by decide) (by decide) ?_
    refine lv_aload_n hx hb dX7_bits_43 rfl (lv_at hl 0 rfl) ?_
    refine m_get (ci := 5) (v := .ref v) (C := RX7) (T := TX7) (N := 2) hx hb hts in_X7_bits_X7 hown hE hM g_h0 rfl 1 (by decide) (hts (.fieldLink RX7 15 "CallWays2$Samples" "values" "[D") (by decide +kernel)) (fun _ h9 => h9) rfl dX7_bits_44 ?_
    refine lv_iload_n hx hb dX7_bits_47 rfl (lv_at hl 1 rfl) ?_
    refine m_dald hx hb hE hM g_v (by assumption) dX7_bits_48 ?_
    refine m_calll (va_runS (As := [.double (f i.toNatClampNeg)]) (rest := []) ⟨hx, hb, hml, hown, hts⟩ (c_X1_ofDouble l E M H.size (f i.toNatClampNeg) hv) (va_cwS 1 hts gX7_bits_X1_ofDouble rfl rfl rfl (by decide +kernel) ⟨Nat.le_of_ble_eq_true rfl, Nat.le_of_ble_eq_true rfl⟩) (m_preS hE hM) rfl rfl hl.1 rfl (lv_room (Nat.le_of_ble_eq_true rfl)) dX7_bits_49 ⟨Nat.le_of_ble_eq_true rfl, Nat.le_of_ble_eq_true rfl⟩) hM hS hA (fun r1 u H locs hw hM hS => ?_)
    obtain ⟨e_r1, eu⟩ := hw
    rw [eu] at hM
    subst e_r1
    exact m_lret hx hb hr hlocks hM hS (Nat.le_refl _) (Nat.le_refl _) dX7_bits_52 (by exact ⟨rfl, rfl⟩)
theorem in_X7_twin_X7 : ∀ w ∈ wsX70, w ∈ wsX7_twin := by decide +kernel
set_option maxHeartbeats 4000000 in
set_option maxRecDepth 100000 in
theorem c_X7_twin (l : Launch) (E : mEnv) (M : mMem) (sz : Nat) (h0 v n : Nat) (lane : Int32) (f : Nat → UInt64) (hn : n ≤ 40) (g_h0 : M h0 = some (mO 5 [.int lane, .ref v])) (g_v : M v = some (mDb E n f))  : Met l yX7_twin wsX7_twin ({ frames := 2, cells := 2, slots := 42, locals := 34 }) (mPre E M sz [.ref h0]) (mQq E M sz (fun r u => ∃ (a v : Nat), r = some a ∧ newSam E M u a v lane n f)) (2) (42) (mA M sz) := by
  refine m_met [.ref h0] (by decide) rfl (Nat.le_of_ble_eq_true rfl) ?_
  intro p e s m below meth c ls H eH hx hb hr hts hown hlocks hnm hml hsz hE hM hS hA hl
  have hl : lv_has ls 1 [(0, .ref h0)] := hl
  refine m_new (ci := 5) (fs := [.int 0, .null]) (C := RX7) (T := TX7) (N := 2) hx hb hts in_X7_twin_X7 tyX7 tyX7_ok hown (hts (.classLink RX7 10 RX7) (by decide +kernel)) (hts (.instantiable RX7 2) (by decide +kernel)) (hts (.initialized RX7) (by decide +kernel)) hE hM hS hA rfl (fun j hj => by rcases (show j = 0 ∨ j = 1 by omega) with rfl | rfl <;> rfl) (by show 0 + 1 ≤ 2; omega) (by show 0 + 2 ≤ 42; omega) dX7_twin_0 (fun a2 H n_a2 hM hS => ?_)
  have hM : mOK E.1 (mA M sz) (mUp M a2 (mO 5 [.int 0, .null])) H := hM
  obtain ⟨M1, eM1⟩ : ∃ z, z = mUp M a2 (mO 5 [.int 0, .null]) := ⟨_, rfl⟩
  rw [← eM1] at hM
  have g_h0 : M1 h0 = some (mO 5 [.int lane, .ref v]) := by rw [eM1]; exact mUp_at (m_neN g_h0 n_a2) g_h0
  have g_v : M1 v = some (mDb E n f) := by rw [eM1]; exact mUp_at (m_neN g_v n_a2) g_v
  have g_a2 : M1 a2 = some (mO 5 [.int 0, .null]) := by rw [eM1]; exact mUp_self _ _ _
  refine lv_dup hx hb dX7_twin_3 rfl ?_
  refine lv_aload_n hx hb dX7_twin_4 rfl (lv_at hl 0 rfl) ?_
  refine m_get (ci := 5) (v := .int lane) (C := RX7) (T := TX7) (N := 2) hx hb hts in_X7_twin_X7 hown hE hM g_h0 rfl 0 (by decide) (hts (.fieldLink RX7 9 "CallWays2$Samples" "lane" "I") (by decide +kernel)) (fun _ h9 => h9) rfl dX7_twin_5 ?_
  refine lv_aload_n hx hb dX7_twin_8 rfl (lv_at hl 0 rfl) ?_
  refine m_get (ci := 5) (v := .ref v) (C := RX7) (T := TX7) (N := 2) hx hb hts in_X7_twin_X7 hown hE hM g_h0 rfl 1 (by decide) (hts (.fieldLink RX7 15 "CallWays2$Samples" "values" "[D") (by decide +kernel)) (fun _ h9 => h9) rfl dX7_twin_9 ?_
  refine m_cloneD hx hb (hml.trans hl.1.symm) hown (hts (.methodLink RX7 19 ⟨"[D", "clone", "()Ljava/lang/Object;"⟩) (by decide +kernel)) (hts (.sameMethod "[D" "java/lang/Object" "clone" "()Ljava/lang/Object;") (by decide +kernel)) (hts (.native ⟨"java/lang/Object", "clone", "()Ljava/lang/Object;"⟩) (by decide +kernel)) (hts (.instanceMethod ⟨"java/lang/Object", "clone", "()Ljava/lang/Object;"⟩) (by decide +kernel)) (hts (.selects "[D" ⟨"[D", "clone", "()Ljava/lang/Object;"⟩ ⟨"java/lang/Object", "clone", "()Ljava/lang/Object;"⟩) (by decide +kernel)) hE hM hS hA g_v (Nat.le_of_ble_eq_true rfl) (Nat.le_of_ble_eq_true rfl) (by show 0 + 1 + 1 ≤ 2; omega) (by show 0 + 2 + n ≤ 42; omega) dX7_twin_12 (fun v2 H n_v2 hM hS => ?_)
  have hM : mOK E.1 (mA M sz) (mUp M1 v2 (mDb E n f)) H := hM
  obtain ⟨M2, eM2⟩ : ∃ z, z = mUp M1 v2 (mDb E n f) := ⟨_, rfl⟩
  rw [← eM2] at hM
  have g_h0 : M2 h0 = some (mO 5 [.int lane, .ref v]) := by rw [eM2]; exact mUp_at (m_neN g_h0 n_v2) g_h0
  have g_v : M2 v = some (mDb E n f) := by rw [eM2]; exact mUp_at (m_neN g_v n_v2) g_v
  have g_a2 : M2 a2 = some (mO 5 [.int 0, .null]) := by rw [eM2]; exact mUp_at (m_neN g_a2 n_v2) g_a2
  have g_v2 : M2 v2 = some (mDb E n f) := by rw [eM2]; exact mUp_self _ _ _
  refine m_castD hx hb hown (hts (.classLink RX7 20 "[D") (by decide +kernel)) hE hM g_v2 dX7_twin_15 ?_
  refine m_callv (va_runI (As := [.int lane, .ref v2]) (rest := [.ref a2]) ⟨hx, hb, hml, hown, hts⟩ (c_X7_init l E M2 H.size a2 v2 lane g_a2) (cwI 2 hts gX7_twin_X7_init rfl rfl rfl (hts (.initialized RX7) (by decide +kernel)) (hts (.methodLink RX7 24 yX7_init) (by decide +kernel)) (hts (.instanceMethod yX7_init) (by decide +kernel)) rfl (by decide +kernel) ⟨Nat.le_of_ble_eq_true rfl, Nat.le_of_ble_eq_true rfl⟩) (m_preI hE hM) rfl rfl hl.1 rfl (lv_room (Nat.le_of_ble_eq_true rfl)) dX7_twin_18 ⟨(by show 0 + 1 + 1 + 0 ≤ 2; omega), (by show 0 + 2 + n + 0 ≤ 42; omega)⟩) hM hS hA (fun M4 H locs hw hM hS => ?_)
  have eM4 := hw
  have g_h0_ : M4 h0 = some (mO 5 [.int lane, .ref v]) := by rw [eM4]; exact mUp_at (m_ne g_h0 g_a2 (by simp)) g_h0
  have g_v_ : M4 v = some (mDb E n f) := by rw [eM4]; exact mUp_at (m_ne g_v g_a2 (by simp)) g_v
  have g_v2_ : M4 v2 = some (mDb E n f) := by rw [eM4]; exact mUp_at (m_ne g_v2 g_a2 (by simp)) g_v2
  have g_h0 := g_h0_
  have g_v := g_v_
  have g_v2 := g_v2_
  have g_a2 : M4 a2 = some (mO 5 [.int lane, .ref v2]) := by rw [eM4]; exact mUp_self _ _ _
  exact m_qret (some a2) hx hb hr hlocks hM hS (by show 0 + 1 + 1 + 0 ≤ 2; omega) (by show 0 + 2 + n + 0 ≤ 42; omega) dX7_twin_21 (by have k := mUp_none (a := a2) (by rw [← eM1]; exact n_v2); exact ⟨a2, v2, rfl, n_a2, k.2, k.1.symm, by rw [eM4, eM2, eM1, mUp_swap k.1]⟩)
set_option maxHeartbeats 4000000 in
set_option maxRecDepth 100000 in
theorem c_X9_lot_n (l : Launch) (E : mEnv) (M : mMem) (sz : Nat) (o : Int32)   : Met l yX9_lentOrTwin wsX9_lentOrTwin ({ frames := 0, cells := 2, slots := 42, locals := 0 }) (mPre E M sz [.null, .int o]) (mQq E M sz (fun r u => r = none ∧ u = M)) (2) (42) (mA M sz) := by
  refine m_met [.null, .int o] (by decide) rfl (Nat.le_of_ble_eq_true rfl) ?_
  intro p e s m below meth c ls H eH hx hb hr hts hown hlocks hnm hml hsz hE hM hS hA hl
  have hl : lv_has ls 2 [(0, .null), (1, .int o)] := hl
  refine lv_aload_nN hx hb dX9_lentOrTwin_0 rfl (lv_at hl 0 rfl) ?_
  refine lv_ifnullN (tgt := 8) hx hb dX9_lentOrTwin_1 (by decide) ?_
  refine lv_aload_nN hx hb dX9_lentOrTwin_8 rfl (lv_at hl 0 rfl) ?_
  refine lv_goto (tgt := 16) hx hb dX9_lentOrTwin_9 (by decide) ?_
  exact m_qret none hx hb hr hlocks hM hS (by show 0 ≤ 2; omega) (by show 0 ≤ 42; omega) dX9_lentOrTwin_16 (by exact ⟨rfl, rfl⟩)
set_option maxHeartbeats 4000000 in
set_option maxRecDepth 100000 in
theorem c_X9_lot_l (l : Launch) (E : mEnv) (M : mMem) (sz : Nat) (h0 : Nat) (o : Int32) (ho : ¬ o = 0)   : Met l yX9_lentOrTwin wsX9_lentOrTwin ({ frames := 0, cells := 2, slots := 42, locals := 0 }) (mPre E M sz [.ref h0, .int o]) (mQq E M sz (fun r u => r = some h0 ∧ u = M)) (2) (42) (mA M sz) := by
  refine m_met [.ref h0, .int o] (by decide) rfl (Nat.le_of_ble_eq_true rfl) ?_
  intro p e s m below meth c ls H eH hx hb hr hts hown hlocks hnm hml hsz hE hM hS hA hl
  have hl : lv_has ls 2 [(0, .ref h0), (1, .int o)] := hl
  refine lv_aload_n hx hb dX9_lentOrTwin_0 rfl (lv_at hl 0 rfl) ?_
  refine lv_ifnull hx hb dX9_lentOrTwin_1 ?_
  refine lv_iload_n hx hb dX9_lentOrTwin_4 rfl (lv_at hl 1 rfl) ?_
  refine lv_if_eq (tgt := 12) hx hb dX9_lentOrTwin_5 (by decide) (fun h9 => False.elim (by revert h9; exact (fun h => ho h))) (fun _ => ?_)
  refine lv_aload_n hx hb dX9_lentOrTwin_8 rfl (lv_at hl 0 rfl) ?_
  refine lv_goto (tgt := 16) hx hb dX9_lentOrTwin_9 (by decide) ?_
  exact m_qret (some h0) hx hb hr hlocks hM hS (by show 0 ≤ 2; omega) (by show 0 ≤ 42; omega) dX9_lentOrTwin_16 (by exact ⟨rfl, rfl⟩)
set_option maxHeartbeats 4000000 in
set_option maxRecDepth 100000 in
theorem c_X9_lot_t (l : Launch) (E : mEnv) (M : mMem) (sz : Nat) (h0 v n : Nat) (lane : Int32) (f : Nat → UInt64) (hn : n ≤ 40) (o : Int32) (ho : o = 0) (g_h0 : M h0 = some (mO 5 [.int lane, .ref v])) (g_v : M v = some (mDb E n f))  : Met l yX9_lentOrTwin wsX9_lentOrTwin ({ frames := 3, cells := 2, slots := 42, locals := 54 }) (mPre E M sz [.ref h0, .int o]) (mQq E M sz (fun r u => ∃ (a v : Nat), r = some a ∧ newSam E M u a v lane n f)) (2) (42) (mA M sz) := by
  refine m_met [.ref h0, .int o] (by decide) rfl (Nat.le_of_ble_eq_true rfl) ?_
  intro p e s m below meth c ls H eH hx hb hr hts hown hlocks hnm hml hsz hE hM hS hA hl
  have hl : lv_has ls 2 [(0, .ref h0), (1, .int o)] := hl
  refine lv_aload_n hx hb dX9_lentOrTwin_0 rfl (lv_at hl 0 rfl) ?_
  refine lv_ifnull hx hb dX9_lentOrTwin_1 ?_
  refine lv_iload_n hx hb dX9_lentOrTwin_4 rfl (lv_at hl 1 rfl) ?_
  refine lv_if_eq (tgt := 12) hx hb dX9_lentOrTwin_5 (by decide) (fun _ => ?_) (fun h9 => False.elim (by revert h9; exact (fun h => h ho)))
  refine lv_aload_n hx hb dX9_lentOrTwin_12 rfl (lv_at hl 0 rfl) ?_
  refine m_callq (va_runV (As := []) (rest := []) ⟨hx, hb, hml, hown, hts⟩ (c_X7_twin l E M H.size h0 v n lane f hn g_h0 g_v) (cwV 0 hts gX9_lentOrTwin_X7_twin rfl rfl rfl (by decide +kernel) ⟨Nat.le_of_ble_eq_true rfl, Nat.le_of_ble_eq_true rfl⟩) (m_preV hE hM g_h0 rfl) rfl rfl hl.1 rfl (lv_room (Nat.le_of_ble_eq_true rfl)) dX9_lentOrTwin_13 ⟨(by show 0 + 2 ≤ 2; omega), (by show 0 + 42 ≤ 42; omega)⟩) hM hS hA (fun r1 M1 H locs hw hM hS => ?_)
  exact m_qret r1 hx hb hr hlocks hM hS (by show 0 + 2 ≤ 2; omega) (by show 0 + 42 ≤ 42; omega) dX9_lentOrTwin_16 (by exact hw)
