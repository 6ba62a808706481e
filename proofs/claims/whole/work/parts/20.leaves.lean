/-- an int of a truth -/
def bI (P : Prop) [Decidable P] : Int32 := if P then 1 else 0
theorem bI_t {P : Prop} [Decidable P] (h : P) : bI P = 1 := if_pos h
theorem bI_f {P : Prop} [Decidable P] (h : ¬ P) : bI P = 0 := if_neg h
theorem bI_ne {P : Prop} [Decidable P] : ¬ bI P = 0 ↔ P := by
  by_cases h : P
  · simp [bI, h]
  · simp [bI, h]
theorem bI_eq {P : Prop} [Decidable P] : bI P = 0 ↔ ¬ P := by
  by_cases h : P
  · simp [bI, h]
  · simp [bI, h]
theorem bI_01 {P : Prop} [Decidable P] : bI P = 0 ∨ bI P = 1 := by
  by_cases h : P
  · simp [bI, h]
  · simp [bI, h]
theorem tab_out {x : Int32} {n : Nat} (hn : n < 2 ^ 31) (h : ∀ j, j ≤ n → ¬ x = nI j) : x.toInt < 0 ∨ (n : Int) < x.toInt := by
  by_cases h0 : x < 0
  · exact Or.inl (by simpa using Int32.lt_iff_toInt_lt.mp h0)
  · obtain ⟨j, hj, rfl⟩ := nI_of h0
    refine Or.inr ?_
    rw [nI_toInt hj]
    have : ¬ j ≤ n := fun q => h j q rfl
    omega
theorem cmpv_eq (o : Option Ordering) (op : CmpOp) : Op.cmpValue o op = 0 ↔ o = some .eq := by
  cases o with
  | none => cases op <;> simp [Op.cmpValue, FP.cmpInt]
  | some o => cases o <;> cases op <;> simp [Op.cmpValue, FP.cmpInt]
theorem nn_d2f {x : UInt64} (h : FP.Core.DFin x) : vf_n32 (FP.d2f x) := n32_of (by rw [FP.d2f_nan]; exact h.notNaN)
theorem nn_f2d {x : UInt64} (h : FP.Core.DFin x) : vf_n64 (FP.f2d (FP.d2f x)) := n64_of (by rw [FP.f2d_nan, FP.d2f_nan]; exact h.notNaN)
theorem vp_in_h {i : Int32} {n : Nat} (h : ¬ i < 0 ∧ ¬ nI n ≤ i) (hn : n < 2 ^ 31 := by omega) : vp_in i n := by
  obtain ⟨j, hj, rfl⟩ := nI_of h.1
  exact vp_in_nI (by have := h.2; rw [nI_leI hn hj] at this; omega) hn
/-- a function's answer, where it refuses nothing -/
def sPass (kind : Int32) (a x : UInt64) : UInt64 := if kind = 0 then FP.dadd x a else if kind = 1 then FP.dmul x a else if kind = 2 then (if 0 < Op.cmpValue (FP.dcmp x a) CmpOp.g then a else x) else if kind = 3 then (if Op.cmpValue (FP.dcmp x a) CmpOp.l ≤ 0 then a else x) else x
def sTurn (lane : Int32) (x : UInt64) : UInt64 := if lane = 0 then FP.i2d (FP.d2i x).toInt16.toInt32 else if lane = 1 then FP.i2d (FP.d2i x) else if lane = 2 then FP.f2d (FP.d2f x) else x
set_option maxHeartbeats 4000000 in
set_option maxRecDepth 100000 in
theorem c_X9_isBlock (l : Launch) (E : mEnv) (M : mMem) (sz : Nat) (b : Int32)   : Met l yX9_isBlock wsX9_isBlock ({ frames := 0, cells := 0, slots := 0, locals := 0 }) (mPre E M sz [.int b]) (mQi E M sz (fun r u => r = bI (¬ b < 0 ∧ ¬ 10 ≤ b) ∧ u = M)) (0) (0) (mA M sz) := by
  refine m_met [.int b] (by decide) rfl (Nat.le_of_ble_eq_true rfl) ?_
  intro p e s m below meth c ls H eH hx hb hr hts hown hlocks hnm hml hsz hE hM hS hA hl
  have hl : lv_has ls 1 [(0, .int b)] := hl
  refine lv_iload_n hx hb dX9_isBlock_0 rfl (lv_at hl 0 rfl) ?_
  refine lv_if_lt (tgt := 14) hx hb dX9_isBlock_1 (by decide) (fun c_1 => ?_) (fun c_1 => ?_)
  · skip
    refine lv_iconst (v := 0) hx hb dX9_isBlock_14 (by decide) ?_
    exact m_zret hx hb hr hlocks hM hS (Nat.le_refl _) (Nat.le_refl _) dX9_isBlock_15 (by first | exact Or.inl rfl | exact Or.inr rfl) (by first | exact ⟨(bI_t (by first | assumption | exact ⟨by assumption, by assumption⟩ | exact ⟨by assumption, by assumption, by assumption⟩ | exact ⟨by assumption, by assumption, by assumption, by assumption⟩)).symm, rfl⟩ | exact ⟨(bI_f (fun h => by first | contradiction | (obtain ⟨h1, h2⟩ := h; first | contradiction | (obtain ⟨h2, h3⟩ := h2; first | contradiction | (obtain ⟨h3, h4⟩ := h3; contradiction))))).symm, rfl⟩ | exact ⟨(bI_f (by simp_all)).symm, rfl⟩)
  · skip
    refine lv_iload_n hx hb dX9_isBlock_4 rfl (lv_at hl 0 rfl) ?_
    refine lv_bipush (v := 10) hx hb dX9_isBlock_5 (by decide) ?_
    refine lv_icmp_ge (tgt := 14) hx hb dX9_isBlock_7 (by decide) (fun c_7 => ?_) (fun c_7 => ?_)
    · skip
      refine lv_iconst (v := 0) hx hb dX9_isBlock_14 (by decide) ?_
      exact m_zret hx hb hr hlocks hM hS (Nat.le_refl _) (Nat.le_refl _) dX9_isBlock_15 (by first | exact Or.inl rfl | exact Or.inr rfl) (by first | exact ⟨(bI_t (by first | assumption | exact ⟨by assumption, by assumption⟩ | exact ⟨by assumption, by assumption, by assumption⟩ | exact ⟨by assumption, by assumption, by assumption, by assumption⟩)).symm, rfl⟩ | exact ⟨(bI_f (fun h => by first | contradiction | (obtain ⟨h1, h2⟩ := h; first | contradiction | (obtain ⟨h2, h3⟩ := h2; first | contradiction | (obtain ⟨h3, h4⟩ := h3; contradiction))))).symm, rfl⟩ | exact ⟨(bI_f (by simp_all)).symm, rfl⟩)
    · skip
      refine lv_iconst (v := 1) hx hb dX9_isBlock_10 (by decide) ?_
      refine lv_goto (tgt := 15) hx hb dX9_isBlock_11 (by decide) ?_
      exact m_zret hx hb hr hlocks hM hS (Nat.le_refl _) (Nat.le_refl _) dX9_isBlock_15 (by first | exact Or.inl rfl | exact Or.inr rfl) (by first | exact ⟨(bI_t (by first | assumption | exact ⟨by assumption, by assumption⟩ | exact ⟨by assumption, by assumption, by assumption⟩ | exact ⟨by assumption, by assumption, by assumption, by assumption⟩)).symm, rfl⟩ | exact ⟨(bI_f (fun h => by first | contradiction | (obtain ⟨h1, h2⟩ := h; first | contradiction | (obtain ⟨h2, h3⟩ := h2; first | contradiction | (obtain ⟨h3, h4⟩ := h3; contradiction))))).symm, rfl⟩ | exact ⟨(bI_f (by simp_all)).symm, rfl⟩)
set_option maxHeartbeats 4000000 in
set_option maxRecDepth 100000 in
theorem c_X9_isLane (l : Launch) (E : mEnv) (M : mMem) (sz : Nat) (b : Int32)   : Met l yX9_isLane wsX9_isLane ({ frames := 0, cells := 0, slots := 0, locals := 0 }) (mPre E M sz [.int b]) (mQi E M sz (fun r u => r = bI (¬ b < 0 ∧ ¬ 3 < b) ∧ u = M)) (0) (0) (mA M sz) := by
  refine m_met [.int b] (by decide) rfl (Nat.le_of_ble_eq_true rfl) ?_
  intro p e s m below meth c ls H eH hx hb hr hts hown hlocks hnm hml hsz hE hM hS hA hl
  have hl : lv_has ls 1 [(0, .int b)] := hl
  refine lv_iload_n hx hb dX9_isLane_0 rfl (lv_at hl 0 rfl) ?_
  refine lv_if_lt (tgt := 13) hx hb dX9_isLane_1 (by decide) (fun c_1 => ?_) (fun c_1 => ?_)
  · skip
    refine lv_iconst (v := 0) hx hb dX9_isLane_13 (by decide) ?_
    exact m_zret hx hb hr hlocks hM hS (Nat.le_refl _) (Nat.le_refl _) dX9_isLane_14 (by first | exact Or.inl rfl | exact Or.inr rfl) (by first | exact ⟨(bI_t (by first | assumption | exact ⟨by assumption, by assumption⟩ | exact ⟨by assumption, by assumption, by assumption⟩ | exact ⟨by assumption, by assumption, by assumption, by assumption⟩)).symm, rfl⟩ | exact ⟨(bI_f (fun h => by first | contradiction | (obtain ⟨h1, h2⟩ := h; first | contradiction | (obtain ⟨h2, h3⟩ := h2; first | contradiction | (obtain ⟨h3, h4⟩ := h3; contradiction))))).symm, rfl⟩ | exact ⟨(bI_f (by simp_all)).symm, rfl⟩)
  · skip
    refine lv_iload_n hx hb dX9_isLane_4 rfl (lv_at hl 0 rfl) ?_
    refine lv_iconst (v := 3) hx hb dX9_isLane_5 (by decide) ?_
    refine lv_icmp_gt (tgt := 13) hx hb dX9_isLane_6 (by decide) (fun c_6 => ?_) (fun c_6 => ?_)
    · skip
      refine lv_iconst (v := 0) hx hb dX9_isLane_13 (by decide) ?_
      exact m_zret hx hb hr hlocks hM hS (Nat.le_refl _) (Nat.le_refl _) dX9_isLane_14 (by first | exact Or.inl rfl | exact Or.inr rfl) (by first | exact ⟨(bI_t (by first | assumption | exact ⟨by assumption, by assumption⟩ | exact ⟨by assumption, by assumption, by assumption⟩ | exact ⟨by assumption, by assumption, by assumption, by assumption⟩)).symm, rfl⟩ | exact ⟨(bI_f (fun h => by first | contradiction | (obtain ⟨h1, h2⟩ := h; first | contradiction | (obtain ⟨h2, h3⟩ := h2; first | contradiction | (obtain ⟨h3, h4⟩ := h3; contradiction))))).symm, rfl⟩ | exact ⟨(bI_f (by simp_all)).symm, rfl⟩)
    · skip
      refine lv_iconst (v := 1) hx hb dX9_isLane_9 (by decide) ?_
      refine lv_goto (tgt := 14) hx hb dX9_isLane_10 (by decide) ?_
      exact m_zret hx hb hr hlocks hM hS (Nat.le_refl _) (Nat.le_refl _) dX9_isLane_14 (by first | exact Or.inl rfl | exact Or.inr rfl) (by first | exact ⟨(bI_t (by first | assumption | exact ⟨by assumption, by assumption⟩ | exact ⟨by assumption, by assumption, by assumption⟩ | exact ⟨by assumption, by assumption, by assumption, by assumption⟩)).symm, rfl⟩ | exact ⟨(bI_f (fun h => by first | contradiction | (obtain ⟨h1, h2⟩ := h; first | contradiction | (obtain ⟨h2, h3⟩ := h2; first | contradiction | (obtain ⟨h3, h4⟩ := h3; contradiction))))).symm, rfl⟩ | exact ⟨(bI_f (by simp_all)).symm, rfl⟩)
set_option maxHeartbeats 4000000 in
set_option maxRecDepth 100000 in
theorem c_X10_in (l : Launch) (E : mEnv) (M : mMem) (sz : Nat) (x a b : Int32)   : Met l yX10_in wsX10_in ({ frames := 0, cells := 0, slots := 0, locals := 0 }) (mPre E M sz [.int x, .int a, .int b]) (mQi E M sz (fun r u => r = bI (¬ x < a ∧ ¬ b < x) ∧ u = M)) (0) (0) (mA M sz) := by
  refine m_met [.int x, .int a, .int b] (by decide) rfl (Nat.le_of_ble_eq_true rfl) ?_
  intro p e s m below meth c ls H eH hx hb hr hts hown hlocks hnm hml hsz hE hM hS hA hl
  have hl : lv_has ls 3 [(0, .int x), (1, .int a), (2, .int b)] := hl
  refine lv_iload_n hx hb dX10_in_0 rfl (lv_at hl 0 rfl) ?_
  refine lv_iload_n hx hb dX10_in_1 rfl (lv_at hl 1 rfl) ?_
  refine lv_icmp_lt (tgt := 14) hx hb dX10_in_2 (by decide) (fun c_2 => ?_) (fun c_2 => ?_)
  · skip
    refine lv_iconst (v := 0) hx hb dX10_in_14 (by decide) ?_
    exact m_zret hx hb hr hlocks hM hS (Nat.le_refl _) (Nat.le_refl _) dX10_in_15 (by first | exact Or.inl rfl | exact Or.inr rfl) (by first | exact ⟨(bI_t (by first | assumption | exact ⟨by assumption, by assumption⟩ | exact ⟨by assumption, by assumption, by assumption⟩ | exact ⟨by assumption, by assumption, by assumption, by assumption⟩)).symm, rfl⟩ | exact ⟨(bI_f (fun h => by first | contradiction | (obtain ⟨h1, h2⟩ := h; first | contradiction | (obtain ⟨h2, h3⟩ := h2; first | contradiction | (obtain ⟨h3, h4⟩ := h3; contradiction))))).symm, rfl⟩ | exact ⟨(bI_f (by simp_all)).symm, rfl⟩)
  · skip
    refine lv_iload_n hx hb dX10_in_5 rfl (lv_at hl 0 rfl) ?_
    refine lv_iload_n hx hb dX10_in_6 rfl (lv_at hl 2 rfl) ?_
    refine lv_icmp_gt (tgt := 14) hx hb dX10_in_7 (by decide) (fun c_7 => ?_) (fun c_7 => ?_)
    · skip
      refine lv_iconst (v := 0) hx hb dX10_in_14 (by decide) ?_
      exact m_zret hx hb hr hlocks hM hS (Nat.le_refl _) (Nat.le_refl _) dX10_in_15 (by first | exact Or.inl rfl | exact Or.inr rfl) (by first | exact ⟨(bI_t (by first | assumption | exact ⟨by assumption, by assumption⟩ | exact ⟨by assumption, by assumption, by assumption⟩ | exact ⟨by assumption, by assumption, by assumption, by assumption⟩)).symm, rfl⟩ | exact ⟨(bI_f (fun h => by first | contradiction | (obtain ⟨h1, h2⟩ := h; first | contradiction | (obtain ⟨h2, h3⟩ := h2; first | contradiction | (obtain ⟨h3, h4⟩ := h3; contradiction))))).symm, rfl⟩ | exact ⟨(bI_f (by simp_all)).symm, rfl⟩)
    · skip
      refine lv_iconst (v := 1) hx hb dX10_in_10 (by decide) ?_
      refine lv_goto (tgt := 15) hx hb dX10_in_11 (by decide) ?_
      exact m_zret hx hb hr hlocks hM hS (Nat.le_refl _) (Nat.le_refl _) dX10_in_15 (by first | exact Or.inl rfl | exact Or.inr rfl) (by first | exact ⟨(bI_t (by first | assumption | exact ⟨by assumption, by assumption⟩ | exact ⟨by assumption, by assumption, by assumption⟩ | exact ⟨by assumption, by assumption, by assumption, by assumption⟩)).symm, rfl⟩ | exact ⟨(bI_f (fun h => by first | contradiction | (obtain ⟨h1, h2⟩ := h; first | contradiction | (obtain ⟨h2, h3⟩ := h2; first | contradiction | (obtain ⟨h3, h4⟩ := h3; contradiction))))).symm, rfl⟩ | exact ⟨(bI_f (by simp_all)).symm, rfl⟩)
theorem in_X7_has_X7 : ∀ w ∈ wsX70, w ∈ wsX7_has := by decide +kernel
set_option maxHeartbeats 4000000 in
set_option maxRecDepth 100000 in
theorem c_X7_has (l : Launch) (E : mEnv) (M : mMem) (sz : Nat) (h0 v n : Nat) (lane : Int32) (f : Nat → UInt64) (i : Int32) (g_h0 : M h0 = some (mO 5 [.int lane, .ref v])) (g_v : M v = some (mDb E n f))  : Met l yX7_has wsX7_has ({ frames := 0, cells := 0, slots := 0, locals := 0 }) (mPre E M sz [.ref h0, .int i]) (mQi E M sz (fun r u => r = bI (¬ i < 0 ∧ ¬ nI n ≤ i) ∧ u = M)) (0) (0) (mA M sz) := by
  refine m_met [.ref h0, .int i] (by decide) rfl (Nat.le_of_ble_eq_true rfl) ?_
  intro p e s m below meth c ls H eH hx hb hr hts hown hlocks hnm hml hsz hE hM hS hA hl
  have hl : lv_has ls 2 [(0, .ref h0), (1, .int i)] := hl
  refine lv_iload_n hx hb dX7_has_0 rfl (lv_at hl 1 rfl) ?_
  refine lv_if_lt (tgt := 17) hx hb dX7_has_1 (by decide) (fun c_1 => ?_) (fun c_1 => ?_)
  · skip
    refine lv_iconst (v := 0) hx hb dX7_has_17 (by decide) ?_
    exact m_zret hx hb hr hlocks hM hS (Nat.le_refl _) (Nat.le_refl _) dX7_has_18 (by first | exact Or.inl rfl | exact Or.inr rfl) (by first | exact ⟨(bI_t (by first | assumption | exact ⟨by assumption, by assumption⟩ | exact ⟨by assumption, by assumption, by assumption⟩ | exact ⟨by assumption, by assumption, by assumption, by assumption⟩)).symm, rfl⟩ | exact ⟨(bI_f (fun h => by first | contradiction | (obtain ⟨h1, h2⟩ := h; first | contradiction | (obtain ⟨h2, h3⟩ := h2; first | contradiction | (obtain ⟨h3, h4⟩ := h3; contradiction))))).symm, rfl⟩ | exact ⟨(bI_f (by simp_all)).symm, rfl⟩)
  · skip
    refine lv_iload_n hx hb dX7_has_4 rfl (lv_at hl 1 rfl) ?_
    refine lv_aload_n hx hb dX7_has_5 rfl (lv_at hl 0 rfl) ?_
    refine m_get (ci := 5) (v := .ref v) (C := RX7) (T := TX7) (N := 2) hx hb hts in_X7_has_X7 hown hE hM g_h0 rfl 1 (by decide) (hts (.fieldLink RX7 15 "CallWays2$Samples" "values" "[D") (by decide +kernel)) (fun _ h9 => h9) rfl dX7_has_6 ?_
    refine m_alenD hx hb hE hM g_v dX7_has_9 ?_
    refine lv_icmp_ge (tgt := 17) hx hb dX7_has_10 (by decide) (fun c_10 => ?_) (fun c_10 => ?_)
    · skip
      refine lv_iconst (v := 0) hx hb dX7_has_17 (by decide) ?_
      exact m_zret hx hb hr hlocks hM hS (Nat.le_refl _) (Nat.le_refl _) dX7_has_18 (by first | exact Or.inl rfl | exact Or.inr rfl) (by first | exact ⟨(bI_t (by first | assumption | exact ⟨by assumption, by assumption⟩ | exact ⟨by assumption, by assumption, by assumption⟩ | exact ⟨by assumption, by assumption, by assumption, by assumption⟩)).symm, rfl⟩ | exact ⟨(bI_f (fun h => by first | contradiction | (obtain ⟨h1, h2⟩ := h; first | contradiction | (obtain ⟨h2, h3⟩ := h2; first | contradiction | (obtain ⟨h3, h4⟩ := h3; contradiction))))).symm, rfl⟩ | exact ⟨(bI_f (by simp_all)).symm, rfl⟩)
    · skip
      refine lv_iconst (v := 1) hx hb dX7_has_13 (by decide) ?_
      refine lv_goto (tgt := 18) hx hb dX7_has_14 (by decide) ?_
      exact m_zret hx hb hr hlocks hM hS (Nat.le_refl _) (Nat.le_refl _) dX7_has_18 (by first | exact Or.inl rfl | exact Or.inr rfl) (by first | exact ⟨(bI_t (by first | assumption | exact ⟨by assumption, by assumption⟩ | exact ⟨by assumption, by assumption, by assumption⟩ | exact ⟨by assumption, by assumption, by assumption, by assumption⟩)).symm, rfl⟩ | exact ⟨(bI_f (fun h => by first | contradiction | (obtain ⟨h1, h2⟩ := h; first | contradiction | (obtain ⟨h2, h3⟩ := h2; first | contradiction | (obtain ⟨h3, h4⟩ := h3; contradiction))))).symm, rfl⟩ | exact ⟨(bI_f (by simp_all)).symm, rfl⟩)
theorem in_X7_spans_X7 : ∀ w ∈ wsX70, w ∈ wsX7_spans := by decide +kernel
set_option maxHeartbeats 4000000 in
set_option maxRecDepth 100000 in
theorem c_X7_spans (l : Launch) (E : mEnv) (M : mMem) (sz : Nat) (h0 v n : Nat) (lane : Int32) (f : Nat → UInt64) (i k : Int32) (g_h0 : M h0 = some (mO 5 [.int lane, .ref v])) (g_v : M v = some (mDb E n f))  : Met l yX7_spans wsX7_spans ({ frames := 0, cells := 0, slots := 0, locals := 0 }) (mPre E M sz [.ref h0, .int i, .int k]) (mQi E M sz (fun r u => r = bI (¬ i < 0 ∧ ¬ k < 0 ∧ ¬ nI n < k ∧ ¬ nI n - k < i) ∧ u = M)) (0) (0) (mA M sz) := by
  refine m_met [.ref h0, .int i, .int k] (by decide) rfl (Nat.le_of_ble_eq_true rfl) ?_
  intro p e s m below meth c ls H eH hx hb hr hts hown hlocks hnm hml hsz hE hM hS hA hl
  have hl : lv_has ls 3 [(0, .ref h0), (1, .int i), (2, .int k)] := hl
  refine lv_iload_n hx hb dX7_spans_0 rfl (lv_at hl 1 rfl) ?_
  refine lv_if_lt (tgt := 32) hx hb dX7_spans_1 (by decide) (fun c_1 => ?_) (fun c_1 => ?_)
  · skip
    refine lv_iconst (v := 0) hx hb dX7_spans_32 (by decide) ?_
    exact m_zret hx hb hr hlocks hM hS (Nat.le_refl _) (Nat.le_refl _) dX7_spans_33 (by first | exact Or.inl rfl | exact Or.inr rfl) (by first | exact ⟨(bI_t (by first | assumption | exact ⟨by assumption, by assumption⟩ | exact ⟨by assumption, by assumption, by assumption⟩ | exact ⟨by assumption, by assumption, by assumption, by assumption⟩)).symm, rfl⟩ | exact ⟨(bI_f (fun h => by first | contradiction | (obtain ⟨h1, h2⟩ := h; first | contradiction | (obtain ⟨h2, h3⟩ := h2; first | contradiction | (obtain ⟨h3, h4⟩ := h3; contradiction))))).symm, rfl⟩ | exact ⟨(bI_f (by simp_all)).symm, rfl⟩)
  · skip
    refine lv_iload_n hx hb dX7_spans_4 rfl (lv_at hl 2 rfl) ?_
    refine lv_if_lt (tgt := 32) hx hb dX7_spans_5 (by decide) (fun c_5 => ?_) (fun c_5 => ?_)
    · skip
      refine lv_iconst (v := 0) hx hb dX7_spans_32 (by decide) ?_
      exact m_zret hx hb hr hlocks hM hS (Nat.le_refl _) (Nat.le_refl _) dX7_spans_33 (by first | exact Or.inl rfl | exact Or.inr rfl) (by first | exact ⟨(bI_t (by first | assumption | exact ⟨by assumption, by assumption⟩ | exact ⟨by assumption, by assumption, by assumption⟩ | exact ⟨by assumption, by assumption, by assumption, by assumption⟩)).symm, rfl⟩ | exact ⟨(bI_f (fun h => by first | contradiction | (obtain ⟨h1, h2⟩ := h; first | contradiction | (obtain ⟨h2, h3⟩ := h2; first | contradiction | (obtain ⟨h3, h4⟩ := h3; contradiction))))).symm, rfl⟩ | exact ⟨(bI_f (by simp_all)).symm, rfl⟩)
    · skip
      refine lv_iload_n hx hb dX7_spans_8 rfl (lv_at hl 2 rfl) ?_
      refine lv_aload_n hx hb dX7_spans_9 rfl (lv_at hl 0 rfl) ?_
      refine m_get (ci := 5) (v := .ref v) (C := RX7) (T := TX7) (N := 2) hx hb hts in_X7_spans_X7 hown hE hM g_h0 rfl 1 (by decide) (hts (.fieldLink RX7 15 "CallWays2$Samples" "values" "[D") (by decide +kernel)) (fun _ h9 => h9) rfl dX7_spans_10 ?_
      refine m_alenD hx hb hE hM g_v dX7_spans_13 ?_
      refine lv_icmp_gt (tgt := 32) hx hb dX7_spans_14 (by decide) (fun c_14 => ?_) (fun c_14 => ?_)
      · skip
        refine lv_iconst (v := 0) hx hb dX7_spans_32 (by decide) ?_
        exact m_zret hx hb hr hlocks hM hS (Nat.le_refl _) (Nat.le_refl _) dX7_spans_33 (by first | exact Or.inl rfl | exact Or.inr rfl) (by first | exact ⟨(bI_t (by first | assumption | exact ⟨by assumption, by assumption⟩ | exact ⟨by assumption, by assumption, by assumption⟩ | exact ⟨by assumption, by assumption, by assumption, by assumption⟩)).symm, rfl⟩ | exact ⟨(bI_f (fun h => by first | contradiction | (obtain ⟨h1, h2⟩ := h; first | contradiction | (obtain ⟨h2, h3⟩ := h2; first | contradiction | (obtain ⟨h3, h4⟩ := h3; contradiction))))).symm, rfl⟩ | exact ⟨(bI_f (by simp_all)).symm, rfl⟩)
      · skip
        refine lv_iload_n hx hb dX7_spans_17 rfl (lv_at hl 1 rfl) ?_
        refine lv_aload_n hx hb dX7_spans_18 rfl (lv_at hl 0 rfl) ?_
        refine m_get (ci := 5) (v := .ref v) (C := RX7) (T := TX7) (N := 2) hx hb hts in_X7_spans_X7 hown hE hM g_h0 rfl 1 (by decide) (hts (.fieldLink RX7 15 "CallWays2$Samples" "values" "[D") (by decide +kernel)) (fun _ h9 => h9) rfl dX7_spans_19 ?_
        refine m_alenD hx hb hE hM g_v dX7_spans_22 ?_
        refine lv_iload_n hx hb dX7_spans_23 rfl (lv_at hl 2 rfl) ?_
        refine lv_isub hx hb dX7_spans_24 ?_
        refine lv_icmp_gt (tgt := 32) hx hb dX7_spans_25 (by decide) (fun c_25 => ?_) (fun c_25 => ?_)
        · skip
          refine lv_iconst (v := 0) hx hb dX7_spans_32 (by decide) ?_
          exact m_zret hx hb hr hlocks hM hS (Nat.le_refl _) (Nat.le_refl _) dX7_spans_33 (by first | exact Or.inl rfl | exact Or.inr rfl) (by first | exact ⟨(bI_t (by first | assumption | exact ⟨by assumption, by assumption⟩ | exact ⟨by assumption, by assumption, by assumption⟩ | exact ⟨by assumption, by assumption, by assumption, by assumption⟩)).symm, rfl⟩ | exact ⟨(bI_f (fun h => by first | contradiction | (obtain ⟨h1, h2⟩ := h; first | contradiction | (obtain ⟨h2, h3⟩ := h2; first | contradiction | (obtain ⟨h3, h4⟩ := h3; contradiction))))).symm, rfl⟩ | exact ⟨(bI_f (by simp_all)).symm, rfl⟩)
        · skip
          refine lv_iconst (v := 1) hx hb dX7_spans_28 (by decide) ?_
          refine lv_goto (tgt := 33) hx hb dX7_spans_29 (by decide) ?_
          exact m_zret hx hb hr hlocks hM hS (Nat.le_refl _) (Nat.le_refl _) dX7_spans_33 (by first | exact Or.inl rfl | exact Or.inr rfl) (by first | exact ⟨(bI_t (by first | assumption | exact ⟨by assumption, by assumption⟩ | exact ⟨by assumption, by assumption, by assumption⟩ | exact ⟨by assumption, by assumption, by assumption, by assumption⟩)).symm, rfl⟩ | exact ⟨(bI_f (fun h => by first | contradiction | (obtain ⟨h1, h2⟩ := h; first | contradiction | (obtain ⟨h2, h3⟩ := h2; first | contradiction | (obtain ⟨h3, h4⟩ := h3; contradiction))))).symm, rfl⟩ | exact ⟨(bI_f (by simp_all)).symm, rfl⟩)
theorem in_X7_init_X7 : ∀ w ∈ wsX70, w ∈ wsX7_init := by decide +kernel
set_option maxHeartbeats 4000000 in
set_option maxRecDepth 100000 in
theorem c_X7_init (l : Launch) (E : mEnv) (M : mMem) (sz : Nat) (h0 v : Nat) (lane : Int32) (g_h0 : M h0 = some (mO 5 [.int 0, .null]))  : Met l yX7_init wsX7_init ({ frames := 1, cells := 0, slots := 0, locals := 12 }) (mPre E M sz [.ref h0, .int lane, .ref v]) (mQv E M sz (fun u => u = mUp M h0 (mO 5 [.int lane, .ref v]))) (0) (0) (mA M sz) := by
  refine m_met [.ref h0, .int lane, .ref v] (by decide) rfl (Nat.le_of_ble_eq_true rfl) ?_
  intro p e s m below meth c ls H eH hx hb hr hts hown hlocks hnm hml hsz hE hM hS hA hl
  have hl : lv_has ls 3 [(0, .ref h0), (1, .int lane), (2, .ref v)] := hl
  refine lv_aload_n hx hb dX7_init_0 rfl (lv_at hl 0 rfl) ?_
  refine W.objInit hx hb hown (hts (.methodLink RX7 3 objectInit) (by decide +kernel)) (hts (.instanceMethod objectInit) (by decide +kernel)) (hts (.code objectInit ⟨#[0xb1]⟩ 1 none) (by decide +kernel)) rfl (by rw [hml]; exact hl.1) rfl dX7_init_1 (Nat.le_of_ble_eq_true rfl) (Nat.le_of_ble_eq_true rfl) ?_
  refine W.eq (g2 := F0 m 4 ls []) rfl ?_
  refine lv_aload_n hx hb dX7_init_4 rfl (lv_at hl 0 rfl) ?_
  refine lv_iload_n hx hb dX7_init_5 rfl (lv_at hl 1 rfl) ?_
  refine m_putF (ci := 5) (v := .int lane) (ty := .int) (C := RX7) (T := TX7) (N := 2) hx hb hts in_X7_init_X7 tyX7 tyX7_ok nmX7 hown hE hM hS g_h0 rfl 0 (by decide) (hts (.fieldLink RX7 9 "CallWays2$Samples" "lane" "I") (by decide +kernel)) (fun _ h9 => h9) rfl hnm rfl (by decide +kernel) rfl rfl (Nat.le_of_ble_eq_true rfl) dX7_init_6 (fun H locs hM hS => ?_)
  have hM : mOK E.1 (mA M sz) (mUp M h0 (mO 5 [.int lane, .null])) H := hM
  obtain ⟨M1, eM1⟩ : ∃ z, z = mUp M h0 (mO 5 [.int lane, .null]) := ⟨_, rfl⟩
  rw [← eM1] at hM
  have g_h0 : M1 h0 = some (mO 5 [.int lane, .null]) := by rw [eM1]; exact mUp_self _ _ _
  refine lv_aload_n hx hb dX7_init_9 rfl (lv_at hl 0 rfl) ?_
  refine lv_aload_n hx hb dX7_init_10 rfl (lv_at hl 2 rfl) ?_
  refine m_putF (ci := 5) (v := .ref v) (ty := .array .double) (C := RX7) (T := TX7) (N := 2) hx hb hts in_X7_init_X7 tyX7 tyX7_ok nmX7 hown hE hM hS g_h0 rfl 1 (by decide) (hts (.fieldLink RX7 15 "CallWays2$Samples" "values" "[D") (by decide +kernel)) (fun _ h9 => h9) rfl hnm rfl (by decide +kernel) rfl rfl (Nat.le_of_ble_eq_true rfl) dX7_init_11 (fun H locs hM hS => ?_)
  have hM : mOK E.1 (mA M sz) (mUp M1 h0 (mO 5 [.int lane, .ref v])) H := hM
  obtain ⟨M2, eM2⟩ : ∃ z, z = mUp M1 h0 (mO 5 [.int lane, .ref v]) := ⟨_, rfl⟩
  rw [← eM2] at hM
  have g_h0 : M2 h0 = some (mO 5 [.int lane, .ref v]) := by rw [eM2]; exact mUp_self _ _ _
  exact m_vret hx hb hr hlocks hM hS (Nat.le_refl _) (Nat.le_refl _) dX7_init_14 (by show _ = _; rw [eM2, eM1]; simp only [mUp_up])
theorem in_X3_init_X3 : ∀ w ∈ wsX30, w ∈ wsX3_init := by decide +kernel
set_option maxHeartbeats 4000000 in
set_option maxRecDepth 100000 in
theorem c_X3_init (l : Launch) (E : mEnv) (M : mMem) (sz : Nat) (h0 : Nat) (kind a : Int32) (g_h0 : M h0 = some (mO 2 [.int 0, .double 0]))  : Met l yX3_init wsX3_init ({ frames := 1, cells := 0, slots := 0, locals := 12 }) (mPre E M sz [.ref h0, .int kind, .int a]) (mQv E M sz (fun u => u = mUp M h0 (mO 2 [.int kind, .double (FP.i2d a)]))) (0) (0) (mA M sz) := by
  refine m_met [.ref h0, .int kind, .int a] (by decide) rfl (Nat.le_of_ble_eq_true rfl) ?_
  intro p e s m below meth c ls H eH hx hb hr hts hown hlocks hnm hml hsz hE hM hS hA hl
  have hl : lv_has ls 3 [(0, .ref h0), (1, .int kind), (2, .int a)] := hl
  refine lv_aload_n hx hb dX3_init_0 rfl (lv_at hl 0 rfl) ?_
  refine W.objInit hx hb hown (hts (.methodLink RX3 3 objectInit) (by decide +kernel)) (hts (.instanceMethod objectInit) (by decide +kernel)) (hts (.code objectInit ⟨#[0xb1]⟩ 1 none) (by decide +kernel)) rfl (by rw [hml]; exact hl.1) rfl dX3_init_1 (Nat.le_of_ble_eq_true rfl) (Nat.le_of_ble_eq_true rfl) ?_
  refine W.eq (g2 := F0 m 4 ls []) rfl ?_
  refine lv_aload_n hx hb dX3_init_4 rfl (lv_at hl 0 rfl) ?_
  refine lv_iload_n hx hb dX3_init_5 rfl (lv_at hl 1 rfl) ?_
  refine m_putF (ci := 2) (v := .int kind) (ty := .int) (C := RX3) (T := TX3) (N := 2) hx hb hts in_X3_init_X3 tyX3 tyX3_ok nmX3 hown hE hM hS g_h0 rfl 0 (by decide) (hts (.fieldLink RX3 9 "CallWays2$Function" "kind" "I") (by decide +kernel)) (fun _ h9 => h9) rfl hnm rfl (by decide +kernel) rfl rfl (Nat.le_of_ble_eq_true rfl) dX3_init_6 (fun H locs hM hS => ?_)
  have hM : mOK E.1 (mA M sz) (mUp M h0 (mO 2 [.int kind, .double 0])) H := hM
  obtain ⟨M1, eM1⟩ : ∃ z, z = mUp M h0 (mO 2 [.int kind, .double 0]) := ⟨_, rfl⟩
  rw [← eM1] at hM
  have g_h0 : M1 h0 = some (mO 2 [.int kind, .double 0]) := by rw [eM1]; exact mUp_self _ _ _
  refine lv_aload_n hx hb dX3_init_9 rfl (lv_at hl 0 rfl) ?_
  refine lv_iload_n hx hb dX3_init_10 rfl (lv_at hl 2 rfl) ?_
  refine lv_i2d hx hb dX3_init_11 ?_
  refine m_putF (ci := 2) (v := .double (FP.i2d a)) (ty := .double) (C := RX3) (T := TX3) (N := 2) hx hb hts in_X3_init_X3 tyX3 tyX3_ok nmX3 hown hE hM hS g_h0 rfl 1 (by decide) (hts (.fieldLink RX3 15 "CallWays2$Function" "a" "D") (by decide +kernel)) (fun _ h9 => h9) rfl hnm rfl (by decide +kernel) rfl rfl (Nat.le_of_ble_eq_true rfl) dX3_init_12 (fun H locs hM hS => ?_)
  have hM : mOK E.1 (mA M sz) (mUp M1 h0 (mO 2 [.int kind, .double (FP.i2d a)])) H := hM
  obtain ⟨M2, eM2⟩ : ∃ z, z = mUp M1 h0 (mO 2 [.int kind, .double (FP.i2d a)]) := ⟨_, rfl⟩
  rw [← eM2] at hM
  have g_h0 : M2 h0 = some (mO 2 [.int kind, .double (FP.i2d a)]) := by rw [eM2]; exact mUp_self _ _ _
  exact m_vret hx hb hr hlocks hM hS (Nat.le_refl _) (Nat.le_refl _) dX3_init_15 (by show _ = _; rw [eM2, eM1]; simp only [mUp_up])
theorem in_X3_refuses_X3 : ∀ w ∈ wsX30, w ∈ wsX3_refuses := by decide +kernel
set_option maxHeartbeats 4000000 in
set_option maxRecDepth 100000 in
theorem c_X3_refuses (l : Launch) (E : mEnv) (M : mMem) (sz : Nat) (h0 : Nat) (kind : Int32) (a x : UInt64) (g_h0 : M h0 = some (mO 2 [.int kind, .double a]))  : Met l yX3_refuses wsX3_refuses ({ frames := 0, cells := 0, slots := 0, locals := 0 }) (mPre E M sz [.ref h0, .double x]) (mQi E M sz (fun r u => r = bI (kind = 5 ∧ FP.dcmp x a = some .eq) ∧ u = M)) (0) (0) (mA M sz) := by
  refine m_met [.ref h0, .double x] (by decide) rfl (Nat.le_of_ble_eq_true rfl) ?_
  intro p e s m below meth c ls H eH hx hb hr hts hown hlocks hnm hml hsz hE hM hS hA hl
  have hl : lv_has ls 3 [(0, .ref h0), (1, .double x)] := hl
  refine lv_aload_n hx hb dX3_refuses_0 rfl (lv_at hl 0 rfl) ?_
  refine m_get (ci := 2) (v := .int kind) (C := RX3) (T := TX3) (N := 2) hx hb hts in_X3_refuses_X3 hown hE hM g_h0 rfl 0 (by decide) (hts (.fieldLink RX3 9 "CallWays2$Function" "kind" "I") (by decide +kernel)) (fun _ h9 => h9) rfl dX3_refuses_1 ?_
  refine lv_iconst (v := 5) hx hb dX3_refuses_4 (by decide) ?_
  refine lv_icmp_ne (tgt := 21) hx hb dX3_refuses_5 (by decide) (fun c_5 => ?_) (fun c_5 => ?_)
  · skip
    refine lv_iconst (v := 0) hx hb dX3_refuses_21 (by decide) ?_
    exact m_zret hx hb hr hlocks hM hS (Nat.le_refl _) (Nat.le_refl _) dX3_refuses_22 (by first | exact Or.inl rfl | exact Or.inr rfl) (by first | exact ⟨(bI_t (by first | assumption | exact ⟨by assumption, by assumption⟩ | exact ⟨by assumption, by assumption, by assumption⟩ | exact ⟨by assumption, by assumption, by assumption, by assumption⟩)).symm, rfl⟩ | exact ⟨(bI_f (fun h => by first | contradiction | (obtain ⟨h1, h2⟩ := h; first | contradiction | (obtain ⟨h2, h3⟩ := h2; first | contradiction | (obtain ⟨h3, h4⟩ := h3; contradiction))))).symm, rfl⟩ | exact ⟨(bI_f (by simp_all)).symm, rfl⟩)
  · skip
    refine lv_dload_n hx hb dX3_refuses_8 rfl (lv_at hl 1 rfl) ?_
    refine lv_aload_n hx hb dX3_refuses_9 rfl (lv_at hl 0 rfl) ?_
    refine m_get (ci := 2) (v := .double a) (C := RX3) (T := TX3) (N := 2) hx hb hts in_X3_refuses_X3 hown hE hM g_h0 rfl 1 (by decide) (hts (.fieldLink RX3 15 "CallWays2$Function" "a" "D") (by decide +kernel)) (fun _ h9 => h9) rfl dX3_refuses_10 ?_
    refine lv_dcmp hx hb dX3_refuses_13 ?_
    refine lv_if_ne (tgt := 21) hx hb dX3_refuses_14 (by decide) (fun c_14 => ?_) (fun c_14 => ?_)
    · skip
      rw [cmpv_eq] at c_14
      refine lv_iconst (v := 0) hx hb dX3_refuses_21 (by decide) ?_
      exact m_zret hx hb hr hlocks hM hS (Nat.le_refl _) (Nat.le_refl _) dX3_refuses_22 (by first | exact Or.inl rfl | exact Or.inr rfl) (by first | exact ⟨(bI_t (by first | assumption | exact ⟨by assumption, by assumption⟩ | exact ⟨by assumption, by assumption, by assumption⟩ | exact ⟨by assumption, by assumption, by assumption, by assumption⟩)).symm, rfl⟩ | exact ⟨(bI_f (fun h => by first | contradiction | (obtain ⟨h1, h2⟩ := h; first | contradiction | (obtain ⟨h2, h3⟩ := h2; first | contradiction | (obtain ⟨h3, h4⟩ := h3; contradiction))))).symm, rfl⟩ | exact ⟨(bI_f (by simp_all)).symm, rfl⟩)
    · skip
      rw [cmpv_eq] at c_14
      refine lv_iconst (v := 1) hx hb dX3_refuses_17 (by decide) ?_
      refine lv_goto (tgt := 22) hx hb dX3_refuses_18 (by decide) ?_
      exact m_zret hx hb hr hlocks hM hS (Nat.le_refl _) (Nat.le_refl _) dX3_refuses_22 (by first | exact Or.inl rfl | exact Or.inr rfl) (by first | exact ⟨(bI_t (by first | assumption | exact ⟨by assumption, by assumption⟩ | exact ⟨by assumption, by assumption, by assumption⟩ | exact ⟨by assumption, by assumption, by assumption, by assumption⟩)).symm, rfl⟩ | exact ⟨(bI_f (fun h => by first | contradiction | (obtain ⟨h1, h2⟩ := h; first | contradiction | (obtain ⟨h2, h3⟩ := h2; first | contradiction | (obtain ⟨h3, h4⟩ := h3; contradiction))))).symm, rfl⟩ | exact ⟨(bI_f (by simp_all)).symm, rfl⟩)
theorem in_X3_pass_X3 : ∀ w ∈ wsX30, w ∈ wsX3_pass := by decide +kernel
set_option maxHeartbeats 4000000 in
set_option maxRecDepth 100000 in
theorem c_X3_pass (l : Launch) (E : mEnv) (M : mMem) (sz : Nat) (h0 : Nat) (kind : Int32) (a x : UInt64) (hx0 : FP.Core.DFin x) (ha0 : FP.Core.DFin a) (g_h0 : M h0 = some (mO 2 [.int kind, .double a]))  : Met l yX3_pass wsX3_pass ({ frames := 0, cells := 0, slots := 0, locals := 0 }) (mPre E M sz [.ref h0, .double x]) (mQd E M sz (fun r u => r = sPass kind a x ∧ u = M)) (0) (0) (mA M sz) := by
  refine m_met [.ref h0, .double x] (by decide) rfl (Nat.le_of_ble_eq_true rfl) ?_
  intro p e s m below meth c ls H eH hx hb hr hts hown hlocks hnm hml hsz hE hM hS hA hl
  have hl : lv_has ls 3 [(0, .ref h0), (1, .double x)] := hl
  refine lv_aload_n hx hb dX3_pass_0 rfl (lv_at hl 0 rfl) ?_
  refine m_get (ci := 2) (v := .int kind) (C := RX3) (T := TX3) (N := 2) hx hb hts in_X3_pass_X3 hown hE hM g_h0 rfl 0 (by decide) (hts (.fieldLink RX3 9 "CallWays2$Function" "kind" "I") (by decide +kernel)) (fun _ h9 => h9) rfl dX3_pass_1 ?_
  by_cases s_4_0 : kind = 0
  · refine lv_tableIn (off := 32) (tgt := 36) hx hb dX3_pass_4 (by rw [s_4_0]; decide) (by rw [s_4_0]; decide) (by rw [s_4_0]; rfl) (by decide) ?_
    refine lv_dload_n hx hb dX3_pass_36 rfl (lv_at hl 1 rfl) ?_
    refine lv_aload_n hx hb dX3_pass_37 rfl (lv_at hl 0 rfl) ?_
    refine m_get (ci := 2) (v := .double a) (C := RX3) (T := TX3) (N := 2) hx hb hts in_X3_pass_X3 hown hE hM g_h0 rfl 1 (by decide) (hts (.fieldLink RX3 15 "CallWays2$Function" "a" "D") (by decide +kernel)) (fun _ h9 => h9) rfl dX3_pass_38 ?_
    refine lv_dadd hx hb dX3_pass_41 (nn_add hx0 ha0) ?_
    exact m_dret hx hb hr hlocks hM hS (Nat.le_refl _) (Nat.le_refl _) dX3_pass_42 (by refine ⟨?_, rfl⟩; unfold sPass; simp_all)
  by_cases s_4_1 : kind = 1
  · refine lv_tableIn (off := 39) (tgt := 43) hx hb dX3_pass_4 (by rw [s_4_1]; decide) (by rw [s_4_1]; decide) (by rw [s_4_1]; rfl) (by decide) ?_
    refine lv_dload_n hx hb dX3_pass_43 rfl (lv_at hl 1 rfl) ?_
    refine lv_aload_n hx hb dX3_pass_44 rfl (lv_at hl 0 rfl) ?_
    refine m_get (ci := 2) (v := .double a) (C := RX3) (T := TX3) (N := 2) hx hb hts in_X3_pass_X3 hown hE hM g_h0 rfl 1 (by decide) (hts (.fieldLink RX3 15 "CallWays2$Function" "a" "D") (by decide +kernel)) (fun _ h9 => h9) rfl dX3_pass_45 ?_
    refine lv_dmul hx hb dX3_pass_48 (nn_mul hx0 ha0) ?_
    exact m_dret hx hb hr hlocks hM hS (Nat.le_refl _) (Nat.le_refl _) dX3_pass_49 (by refine ⟨?_, rfl⟩; unfold sPass; simp_all)
  by_cases s_4_2 : kind = 2
  · refine lv_tableIn (off := 46) (tgt := 50) hx hb dX3_pass_4 (by rw [s_4_2]; decide) (by rw [s_4_2]; decide) (by rw [s_4_2]; rfl) (by decide) ?_
    refine lv_dload_n hx hb dX3_pass_50 rfl (lv_at hl 1 rfl) ?_
    refine lv_aload_n hx hb dX3_pass_51 rfl (lv_at hl 0 rfl) ?_
    refine m_get (ci := 2) (v := .double a) (C := RX3) (T := TX3) (N := 2) hx hb hts in_X3_pass_X3 hown hE hM g_h0 rfl 1 (by decide) (hts (.fieldLink RX3 15 "CallWays2$Function" "a" "D") (by decide +kernel)) (fun _ h9 => h9) rfl dX3_pass_52 ?_
    refine lv_dcmp hx hb dX3_pass_55 ?_
    refine lv_if_gt (tgt := 63) hx hb dX3_pass_56 (by decide) (fun c_56 => ?_) (fun c_56 => ?_)
    · skip
      refine lv_aload_n hx hb dX3_pass_63 rfl (lv_at hl 0 rfl) ?_
      refine m_get (ci := 2) (v := .double a) (C := RX3) (T := TX3) (N := 2) hx hb hts in_X3_pass_X3 hown hE hM g_h0 rfl 1 (by decide) (hts (.fieldLink RX3 15 "CallWays2$Function" "a" "D") (by decide +kernel)) (fun _ h9 => h9) rfl dX3_pass_64 ?_
      exact m_dret hx hb hr hlocks hM hS (Nat.le_refl _) (Nat.le_refl _) dX3_pass_67 (by refine ⟨?_, rfl⟩; subst s_4_2; first | exact (if_pos c_56).symm | exact (if_neg c_56).symm)
    · skip
      refine lv_dload_n hx hb dX3_pass_59 rfl (lv_at hl 1 rfl) ?_
      refine lv_goto (tgt := 67) hx hb dX3_pass_60 (by decide) ?_
      exact m_dret hx hb hr hlocks hM hS (Nat.le_refl _) (Nat.le_refl _) dX3_pass_67 (by refine ⟨?_, rfl⟩; subst s_4_2; first | exact (if_pos c_56).symm | exact (if_neg c_56).symm)
  by_cases s_4_3 : kind = 3
  · refine lv_tableIn (off := 64) (tgt := 68) hx hb dX3_pass_4 (by rw [s_4_3]; decide) (by rw [s_4_3]; decide) (by rw [s_4_3]; rfl) (by decide) ?_
    refine lv_dload_n hx hb dX3_pass_68 rfl (lv_at hl 1 rfl) ?_
    refine lv_aload_n hx hb dX3_pass_69 rfl (lv_at hl 0 rfl) ?_
    refine m_get (ci := 2) (v := .double a) (C := RX3) (T := TX3) (N := 2) hx hb hts in_X3_pass_X3 hown hE hM g_h0 rfl 1 (by decide) (hts (.fieldLink RX3 15 "CallWays2$Function" "a" "D") (by decide +kernel)) (fun _ h9 => h9) rfl dX3_pass_70 ?_
    refine lv_dcmp hx hb dX3_pass_73 ?_
    refine lv_if_le (tgt := 81) hx hb dX3_pass_74 (by decide) (fun c_74 => ?_) (fun c_74 => ?_)
    · skip
      refine lv_aload_n hx hb dX3_pass_81 rfl (lv_at hl 0 rfl) ?_
      refine m_get (ci := 2) (v := .double a) (C := RX3) (T := TX3) (N := 2) hx hb hts in_X3_pass_X3 hown hE hM g_h0 rfl 1 (by decide) (hts (.fieldLink RX3 15 "CallWays2$Function" "a" "D") (by decide +kernel)) (fun _ h9 => h9) rfl dX3_pass_82 ?_
      exact m_dret hx hb hr hlocks hM hS (Nat.le_refl _) (Nat.le_refl _) dX3_pass_85 (by refine ⟨?_, rfl⟩; subst s_4_3; first | exact (if_pos c_74).symm | exact (if_neg c_74).symm)
    · skip
      refine lv_dload_n hx hb dX3_pass_77 rfl (lv_at hl 1 rfl) ?_
      refine lv_goto (tgt := 85) hx hb dX3_pass_78 (by decide) ?_
      exact m_dret hx hb hr hlocks hM hS (Nat.le_refl _) (Nat.le_refl _) dX3_pass_85 (by refine ⟨?_, rfl⟩; subst s_4_3; first | exact (if_pos c_74).symm | exact (if_neg c_74).symm)
  refine lv_tableOut (tgt := 86) hx hb dX3_pass_4 (tab_out (x := kind) (n := 3) (by decide) (fun j hj => match j, hj with | 0, _ => s_4_0 | 1, _ => s_4_1 | 2, _ => s_4_2 | 3, _ => s_4_3 | j + 4, h => absurd h (by omega))) (by decide) ?_
  refine lv_dload_n hx hb dX3_pass_86 rfl (lv_at hl 1 rfl) ?_
  exact m_dret hx hb hr hlocks hM hS (Nat.le_refl _) (Nat.le_refl _) dX3_pass_87 (by refine ⟨?_, rfl⟩; unfold sPass; simp_all)
theorem in_X7_turned_X7 : ∀ w ∈ wsX70, w ∈ wsX7_turned := by decide +kernel
set_option maxHeartbeats 4000000 in
set_option maxRecDepth 100000 in
theorem c_X7_turned (l : Launch) (E : mEnv) (M : mMem) (sz : Nat) (h0 v : Nat) (lane : Int32) (x : UInt64) (hx0 : FP.Core.DFin x) (g_h0 : M h0 = some (mO 5 [.int lane, .ref v]))  : Met l yX7_turned wsX7_turned ({ frames := 0, cells := 0, slots := 0, locals := 0 }) (mPre E M sz [.ref h0, .double x]) (mQd E M sz (fun r u => r = sTurn lane x ∧ u = M)) (0) (0) (mA M sz) := by
  refine m_met [.ref h0, .double x] (by decide) rfl (Nat.le_of_ble_eq_true rfl) ?_
  intro p e s m below meth c ls H eH hx hb hr hts hown hlocks hnm hml hsz hE hM hS hA hl
  have hl : lv_has ls 3 [(0, .ref h0), (1, .double x)] := hl
  refine lv_aload_n hx hb dX7_turned_0 rfl (lv_at hl 0 rfl) ?_
  refine m_get (ci := 5) (v := .int lane) (C := RX7) (T := TX7) (N := 2) hx hb hts in_X7_turned_X7 hown hE hM g_h0 rfl 0 (by decide) (hts (.fieldLink RX7 9 "CallWays2$Samples" "lane" "I") (by decide +kernel)) (fun _ h9 => h9) rfl dX7_turned_1 ?_
  by_cases s_4_0 : lane = 0
  · refine lv_tableIn (off := 28) (tgt := 32) hx hb dX7_turned_4 (by rw [s_4_0]; decide) (by rw [s_4_0]; decide) (by rw [s_4_0]; rfl) (by decide) ?_
    refine lv_dload_n hx hb dX7_turned_32 rfl (lv_at hl 1 rfl) ?_
    refine lv_d2i hx hb dX7_turned_33 ?_
    refine lv_i2s hx hb dX7_turned_34 rfl ?_
    refine lv_i2d hx hb dX7_turned_35 ?_
    exact m_dret hx hb hr hlocks hM hS (Nat.le_refl _) (Nat.le_refl _) dX7_turned_36 (by refine ⟨?_, rfl⟩; unfold sTurn; simp_all)
  by_cases s_4_1 : lane = 1
  · refine lv_tableIn (off := 33) (tgt := 37) hx hb dX7_turned_4 (by rw [s_4_1]; decide) (by rw [s_4_1]; decide) (by rw [s_4_1]; rfl) (by decide) ?_
    refine lv_dload_n hx hb dX7_turned_37 rfl (lv_at hl 1 rfl) ?_
    refine lv_d2i hx hb dX7_turned_38 ?_
    refine lv_i2d hx hb dX7_turned_39 ?_
    exact m_dret hx hb hr hlocks hM hS (Nat.le_refl _) (Nat.le_refl _) dX7_turned_40 (by refine ⟨?_, rfl⟩; unfold sTurn; simp_all)
  by_cases s_4_2 : lane = 2
  · refine lv_tableIn (off := 37) (tgt := 41) hx hb dX7_turned_4 (by rw [s_4_2]; decide) (by rw [s_4_2]; decide) (by rw [s_4_2]; rfl) (by decide) ?_
    refine lv_dload_n hx hb dX7_turned_41 rfl (lv_at hl 1 rfl) ?_
    refine lv_d2f hx hb dX7_turned_42 (nn_d2f hx0) ?_
    refine lv_f2d hx hb dX7_turned_43 (nn_f2d hx0) ?_
    exact m_dret hx hb hr hlocks hM hS (Nat.le_refl _) (Nat.le_refl _) dX7_turned_44 (by refine ⟨?_, rfl⟩; unfold sTurn; simp_all)
  refine lv_tableOut (tgt := 45) hx hb dX7_turned_4 (tab_out (x := lane) (n := 2) (by decide) (fun j hj => match j, hj with | 0, _ => s_4_0 | 1, _ => s_4_1 | 2, _ => s_4_2 | j + 3, h => absurd h (by omega))) (by decide) ?_
  refine lv_dload_n hx hb dX7_turned_45 rfl (lv_at hl 1 rfl) ?_
  exact m_dret hx hb hr hlocks hM hS (Nat.le_refl _) (Nat.le_refl _) dX7_turned_46 (by refine ⟨?_, rfl⟩; unfold sTurn; simp_all)
theorem in_X7_set_X7 : ∀ w ∈ wsX70, w ∈ wsX7_set := by decide +kernel
set_option maxHeartbeats 4000000 in
set_option maxRecDepth 100000 in
theorem c_X7_set (l : Launch) (E : mEnv) (M : mMem) (sz : Nat) (h0 v n : Nat) (lane : Int32) (f : Nat → UInt64) (i : Int32) (x : UInt64) (hx0 : FP.Core.DFin x) (hin : vp_in i n) (g_h0 : M h0 = some (mO 5 [.int lane, .ref v])) (g_v : M v = some (mDb E n f))  : Met l yX7_set wsX7_set ({ frames := 1, cells := 0, slots := 0, locals := 22 }) (mPre E M sz [.ref h0, .int i, .double x]) (mQv E M sz (fun u => u = mUp M v (mDb E n (vf_upd f i.toNatClampNeg (sTurn lane x))))) (0) (0) (mA M sz) := by
  refine m_met [.ref h0, .int i, .double x] (by decide) rfl (Nat.le_of_ble_eq_true rfl) ?_
  intro p e s m below meth c ls H eH hx hb hr hts hown hlocks hnm hml hsz hE hM hS hA hl
  have hl : lv_has ls 4 [(0, .ref h0), (1, .int i), (2, .double x)] := hl
  refine lv_aload_n hx hb dX7_set_0 rfl (lv_at hl 0 rfl) ?_
  refine m_get (ci := 5) (v := .ref v) (C := RX7) (T := TX7) (N := 2) hx hb hts in_X7_set_X7 hown hE hM g_h0 rfl 1 (by decide) (hts (.fieldLink RX7 15 "CallWays2$Samples" "values" "[D") (by decide +kernel)) (fun _ h9 => h9) rfl dX7_set_1 ?_
  refine lv_iload_n hx hb dX7_set_4 rfl (lv_at hl 1 rfl) ?_
  refine lv_aload_n hx hb dX7_set_5 rfl (lv_at hl 0 rfl) ?_
  refine lv_dload_n hx hb dX7_set_6 rfl (lv_at hl 2 rfl) ?_
  refine m_calld (va_runV (As := [.double x]) (rest := [.int i, .ref v]) ⟨hx, hb, hml, hown, hts⟩ (c_X7_turned l E M H.size h0 v lane x hx0 g_h0) (cwV 1 hts gX7_set_X7_turned rfl rfl rfl (by decide +kernel) ⟨Nat.le_of_ble_eq_true rfl, Nat.le_of_ble_eq_true rfl⟩) (m_preV hE hM g_h0 rfl) rfl rfl hl.1 rfl (lv_room (Nat.le_of_ble_eq_true rfl)) dX7_set_7 ⟨Nat.le_of_ble_eq_true rfl, Nat.le_of_ble_eq_true rfl⟩) hM hS hA (fun r1 u H locs hw hM hS => ?_)
  obtain ⟨e_r1, eu⟩ := hw
  rw [eu] at hM
  subst e_r1
  refine m_dast hx hb hE hM hS g_v (by assumption) dX7_set_10 (fun H locs hM hS => ?_)
  have hM : mOK E.1 (mA M sz) (mUp M v (mDb E n (vf_upd f i.toNatClampNeg (sTurn lane x)))) H := hM
  obtain ⟨M1, eM1⟩ : ∃ z, z = mUp M v (mDb E n (vf_upd f i.toNatClampNeg (sTurn lane x))) := ⟨_, rfl⟩
  rw [← eM1] at hM
  have g_h0_ : M1 h0 = some (mO 5 [.int lane, .ref v]) := by rw [eM1]; exact mUp_at (m_ne g_h0 g_v (by simp)) g_h0
  have g_h0 := g_h0_
  have g_v : M1 v = some (mDb E n (vf_upd f i.toNatClampNeg (sTurn lane x))) := by rw [eM1]; exact mUp_self _ _ _
  exact m_vret hx hb hr hlocks hM hS (Nat.le_refl _) (Nat.le_refl _) dX7_set_11 (by show _ = _; rw [eM1])
theorem in_X5_fail_I : ∀ w ∈ wsX00 ++ wsX20 ++ wsX40 ++ wsX60 ++ wsX80, w ∈ wsX5_fail := by decide +kernel
set_option maxHeartbeats 4000000 in
set_option maxRecDepth 100000 in
theorem c_X5_fail (l : Launch) (E : mEnv) (M : mMem) (sz : Nat) (ci : Nat) (hci : insK ci) (h0 kn : Nat) (pi on ph fl : Int32) (le : UInt64) (tab : Option Nat) (w : Int32) (g_h0 : M h0 = some (mO ci [.ref kn, .int pi, .int on, .int ph, .double le, va_rf (tab), .int fl]))  : Met l yX5_fail wsX5_fail ({ frames := 0, cells := 0, slots := 0, locals := 0 }) (mPre E M sz [.ref h0, .int w]) (mQd E M sz (fun r u => r = FP.dconst0 ∧ u = mUp M h0 (mO ci [.ref kn, .int pi, .int on, .int ph, .double le, va_rf (tab), .int w]))) (0) (0) (mA M sz) := by
  refine m_met [.ref h0, .int w] (by decide) rfl (Nat.le_of_ble_eq_true rfl) ?_
  intro p e s m below meth c ls H eH hx hb hr hts hown hlocks hnm hml hsz hE hM hS hA hl
  have hl : lv_has ls 2 [(0, .ref h0), (1, .int w)] := hl
  refine lv_aload_n hx hb dX5_fail_0 rfl (lv_at hl 0 rfl) ?_
  refine lv_iload_n hx hb dX5_fail_1 rfl (lv_at hl 1 rfl) ?_
  refine m_putI (v := .int w) (ty := .int) hx hb hts in_X5_fail_I hown hE hM hS g_h0 hci 6 (by decide) (hts (.fieldLink RX5 23 "CallWays2$Instrument" "failure" "I") (by decide +kernel)) (fun _ h9 => h9) rfl (by decide +kernel) rfl rfl (Nat.le_of_ble_eq_true rfl) dX5_fail_2 (fun H locs hM hS => ?_)
  have hM : mOK E.1 (mA M sz) (mUp M h0 (mO ci [.ref kn, .int pi, .int on, .int ph, .double le, va_rf (tab), .int w])) H := hM
  obtain ⟨M1, eM1⟩ : ∃ z, z = mUp M h0 (mO ci [.ref kn, .int pi, .int on, .int ph, .double le, va_rf (tab), .int w]) := ⟨_, rfl⟩
  rw [← eM1] at hM
  have g_h0 : M1 h0 = some (mO ci [.ref kn, .int pi, .int on, .int ph, .double le, va_rf (tab), .int w]) := by rw [eM1]; exact mUp_self _ _ _
  refine lv_dconst0 hx hb dX5_fail_5 ?_
  exact m_dret hx hb hr hlocks hM hS (Nat.le_refl _) (Nat.le_refl _) dX5_fail_6 (by exact ⟨rfl, by rw [eM1]⟩)
theorem in_X5_goBack_I : ∀ w ∈ wsX00 ++ wsX20 ++ wsX40 ++ wsX60 ++ wsX80, w ∈ wsX5_goBack := by decide +kernel
set_option maxHeartbeats 4000000 in
set_option maxRecDepth 100000 in
theorem c_X5_goBack (l : Launch) (E : mEnv) (M : mMem) (sz : Nat) (ci : Nat) (hci : insK ci) (h0 kn : Nat) (pi on ph fl : Int32) (le : UInt64) (tab : Option Nat) (w : Int32) (x : UInt64) (g_h0 : M h0 = some (mO ci [.ref kn, .int pi, .int on, .int ph, .double le, va_rf (tab), .int fl]))  : Met l yX5_goBack wsX5_goBack ({ frames := 0, cells := 0, slots := 0, locals := 0 }) (mPre E M sz [.ref h0, .int w, .double x]) (mQv E M sz (fun u => u = mUp M h0 (mO ci [.ref kn, .int pi, .int on, .int w, .double x, va_rf (tab), .int fl]))) (0) (0) (mA M sz) := by
  refine m_met [.ref h0, .int w, .double x] (by decide) rfl (Nat.le_of_ble_eq_true rfl) ?_
  intro p e s m below meth c ls H eH hx hb hr hts hown hlocks hnm hml hsz hE hM hS hA hl
  have hl : lv_has ls 4 [(0, .ref h0), (1, .int w), (2, .double x)] := hl
  refine lv_aload_n hx hb dX5_goBack_0 rfl (lv_at hl 0 rfl) ?_
  refine lv_iload_n hx hb dX5_goBack_1 rfl (lv_at hl 1 rfl) ?_
  refine m_putI (v := .int w) (ty := .int) hx hb hts in_X5_goBack_I hown hE hM hS g_h0 hci 3 (by decide) (hts (.fieldLink RX5 30 "CallWays2$Instrument" "phase" "I") (by decide +kernel)) (fun _ h9 => h9) rfl (by decide +kernel) rfl rfl (Nat.le_of_ble_eq_true rfl) dX5_goBack_2 (fun H locs hM hS => ?_)
  have hM : mOK E.1 (mA M sz) (mUp M h0 (mO ci [.ref kn, .int pi, .int on, .int w, .double le, va_rf (tab), .int fl])) H := hM
  obtain ⟨M1, eM1⟩ : ∃ z, z = mUp M h0 (mO ci [.ref kn, .int pi, .int on, .int w, .double le, va_rf (tab), .int fl]) := ⟨_, rfl⟩
  rw [← eM1] at hM
  have g_h0 : M1 h0 = some (mO ci [.ref kn, .int pi, .int on, .int w, .double le, va_rf (tab), .int fl]) := by rw [eM1]; exact mUp_self _ _ _
  refine lv_aload_n hx hb dX5_goBack_5 rfl (lv_at hl 0 rfl) ?_
  refine lv_dload_n hx hb dX5_goBack_6 rfl (lv_at hl 2 rfl) ?_
  refine m_putI (v := .double x) (ty := .double) hx hb hts in_X5_goBack_I hown hE hM hS g_h0 hci 4 (by decide) (hts (.fieldLink RX5 33 "CallWays2$Instrument" "level" "D") (by decide +kernel)) (fun _ h9 => h9) rfl (by decide +kernel) rfl rfl (Nat.le_of_ble_eq_true rfl) dX5_goBack_7 (fun H locs hM hS => ?_)
  have hM : mOK E.1 (mA M sz) (mUp M1 h0 (mO ci [.ref kn, .int pi, .int on, .int w, .double x, va_rf (tab), .int fl])) H := hM
  obtain ⟨M2, eM2⟩ : ∃ z, z = mUp M1 h0 (mO ci [.ref kn, .int pi, .int on, .int w, .double x, va_rf (tab), .int fl]) := ⟨_, rfl⟩
  rw [← eM2] at hM
  have g_h0 : M2 h0 = some (mO ci [.ref kn, .int pi, .int on, .int w, .double x, va_rf (tab), .int fl]) := by rw [eM2]; exact mUp_self _ _ _
  exact m_vret hx hb hr hlocks hM hS (Nat.le_refl _) (Nat.le_refl _) dX5_goBack_10 (by show _ = _; rw [eM2, eM1]; simp only [mUp_up])
theorem in_X5_strike_I : ∀ w ∈ wsX00 ++ wsX20 ++ wsX40 ++ wsX60 ++ wsX80, w ∈ wsX5_strike := by decide +kernel
set_option maxHeartbeats 4000000 in
set_option maxRecDepth 100000 in
theorem c_X5_strike (l : Launch) (E : mEnv) (M : mMem) (sz : Nat) (ci : Nat) (hci : insK ci) (h0 kn : Nat) (pi on ph fl : Int32) (le : UInt64) (tab : Option Nat) (w o : Int32) (hon : o = 0 ∨ o = 1) (g_h0 : M h0 = some (mO ci [.ref kn, .int pi, .int on, .int ph, .double le, va_rf (tab), .int fl]))  : Met l yX5_strike wsX5_strike ({ frames := 0, cells := 0, slots := 0, locals := 0 }) (mPre E M sz [.ref h0, .int w, .int o]) (mQv E M sz (fun u => u = mUp M h0 (mO ci [.ref kn, .int w, .int o, .int ph, .double le, va_rf (tab), .int fl]))) (0) (0) (mA M sz) := by
  refine m_met [.ref h0, .int w, .int o] (by decide) rfl (Nat.le_of_ble_eq_true rfl) ?_
  intro p e s m below meth c ls H eH hx hb hr hts hown hlocks hnm hml hsz hE hM hS hA hl
  have hl : lv_has ls 3 [(0, .ref h0), (1, .int w), (2, .int o)] := hl
  refine lv_aload_n hx hb dX5_strike_0 rfl (lv_at hl 0 rfl) ?_
  refine lv_iload_n hx hb dX5_strike_1 rfl (lv_at hl 1 rfl) ?_
  refine m_putI (v := .int w) (ty := .int) hx hb hts in_X5_strike_I hown hE hM hS g_h0 hci 1 (by decide) (hts (.fieldLink RX5 15 "CallWays2$Instrument" "pitch" "I") (by decide +kernel)) (fun _ h9 => h9) rfl (by decide +kernel) rfl rfl (Nat.le_of_ble_eq_true rfl) dX5_strike_2 (fun H locs hM hS => ?_)
  have hM : mOK E.1 (mA M sz) (mUp M h0 (mO ci [.ref kn, .int w, .int on, .int ph, .double le, va_rf (tab), .int fl])) H := hM
  obtain ⟨M1, eM1⟩ : ∃ z, z = mUp M h0 (mO ci [.ref kn, .int w, .int on, .int ph, .double le, va_rf (tab), .int fl]) := ⟨_, rfl⟩
  rw [← eM1] at hM
  have g_h0 : M1 h0 = some (mO ci [.ref kn, .int w, .int on, .int ph, .double le, va_rf (tab), .int fl]) := by rw [eM1]; exact mUp_self _ _ _
  refine lv_aload_n hx hb dX5_strike_5 rfl (lv_at hl 0 rfl) ?_
  refine lv_iload_n hx hb dX5_strike_6 rfl (lv_at hl 2 rfl) ?_
  refine m_putI (v := .int o) (ty := .boolean) hx hb hts in_X5_strike_I hown hE hM hS g_h0 hci 2 (by decide) (hts (.fieldLink RX5 19 "CallWays2$Instrument" "on" "Z") (by decide +kernel)) (fun _ h9 => h9) rfl (by decide +kernel) (by rcases hon with rfl | rfl <;> rfl) (by rcases hon with rfl | rfl <;> rfl) (Nat.le_of_ble_eq_true rfl) dX5_strike_7 (fun H locs hM hS => ?_)
  have hM : mOK E.1 (mA M sz) (mUp M1 h0 (mO ci [.ref kn, .int w, .int o, .int ph, .double le, va_rf (tab), .int fl])) H := hM
  obtain ⟨M2, eM2⟩ : ∃ z, z = mUp M1 h0 (mO ci [.ref kn, .int w, .int o, .int ph, .double le, va_rf (tab), .int fl]) := ⟨_, rfl⟩
  rw [← eM2] at hM
  have g_h0 : M2 h0 = some (mO ci [.ref kn, .int w, .int o, .int ph, .double le, va_rf (tab), .int fl]) := by rw [eM2]; exact mUp_self _ _ _
  exact m_vret hx hb hr hlocks hM hS (Nat.le_refl _) (Nat.le_refl _) dX5_strike_10 (by show _ = _; rw [eM2, eM1]; simp only [mUp_up])
theorem in_X8_give_X8 : ∀ w ∈ wsX80, w ∈ wsX8_give := by decide +kernel
set_option maxHeartbeats 4000000 in
set_option maxRecDepth 100000 in
theorem c_X8_give_6 (l : Launch) (E : mEnv) (M : mMem) (sz : Nat) (h0 kn : Nat) (pi on ph : Int32) (le : UInt64) (tab : Option Nat) (kf : Nat → Int32) (tb : tbT)  (g_h0 : M h0 = some (mO 6 [.ref kn, .int pi, .int on, .int ph, .double le, va_rf (tab), .int 0])) (g_kn : M kn = some (mI E 4 kf))  : Met l yX8_give wsX8_give ({ frames := 0, cells := 0, slots := 0, locals := 0 }) (mPre E M sz [.ref h0]) (mQd E M sz (fun r u => r = sTone pi on ph ∧ u = M)) (0) (0) (mA M sz) := by
  refine m_met [.ref h0] (by decide) rfl (Nat.le_of_ble_eq_true rfl) ?_
  intro p e s m below meth c ls H eH hx hb hr hts hown hlocks hnm hml hsz hE hM hS hA hl
  have hl : lv_has ls 1 [(0, .ref h0)] := hl
  refine lv_aload_n hx hb dX8_give_0 rfl (lv_at hl 0 rfl) ?_
  refine m_get (ci := 6) (v := .int on) (C := RX8) (T := TX8) (N := 7) hx hb hts in_X8_give_X8 hown hE hM g_h0 rfl 2 (by decide) (hts (.fieldLink RX8 7 "CallWays2$Tone" "on" "Z") (by decide +kernel)) (u_same (hts (.sameField "CallWays2$Tone" "CallWays2$Instrument" "on" "Z") (by decide +kernel))) rfl dX8_give_1 ?_
  refine lv_if_eq (tgt := 28) hx hb dX8_give_4 (by decide) (fun c_4 => ?_) (fun c_4 => ?_)
  · skip
    refine lv_dconst0 hx hb dX8_give_28 ?_
    exact m_dret hx hb hr hlocks hM hS (Nat.le_refl _) (Nat.le_refl _) dX8_give_29 (by refine ⟨?_, rfl⟩; unfold sTone; simp_all)
  · skip
    refine lv_aload_n hx hb dX8_give_7 rfl (lv_at hl 0 rfl) ?_
    refine m_get (ci := 6) (v := .int ph) (C := RX8) (T := TX8) (N := 7) hx hb hts in_X8_give_X8 hown hE hM g_h0 rfl 3 (by decide) (hts (.fieldLink RX8 13 "CallWays2$Tone" "phase" "I") (by decide +kernel)) (u_same (hts (.sameField "CallWays2$Tone" "CallWays2$Instrument" "phase" "I") (by decide +kernel))) rfl dX8_give_8 ?_
    refine lv_aload_n hx hb dX8_give_11 rfl (lv_at hl 0 rfl) ?_
    refine m_get (ci := 6) (v := .int pi) (C := RX8) (T := TX8) (N := 7) hx hb hts in_X8_give_X8 hown hE hM g_h0 rfl 1 (by decide) (hts (.fieldLink RX8 17 "CallWays2$Tone" "pitch" "I") (by decide +kernel)) (u_same (hts (.sameField "CallWays2$Tone" "CallWays2$Instrument" "pitch" "I") (by decide +kernel))) rfl dX8_give_12 ?_
    refine lv_imul hx hb dX8_give_15 ?_
    refine lv_sipush (v := 256) hx hb dX8_give_16 (by decide) ?_
    refine lv_irem hx hb dX8_give_19 (by decide) ?_
    refine lv_sipush (v := 128) hx hb dX8_give_20 (by decide) ?_
    refine lv_isub hx hb dX8_give_23 ?_
    refine lv_i2d hx hb dX8_give_24 ?_
    refine lv_goto (tgt := 29) hx hb dX8_give_25 (by decide) ?_
    exact m_dret hx hb hr hlocks hM hS (Nat.le_refl _) (Nat.le_refl _) dX8_give_29 (by refine ⟨?_, rfl⟩; unfold sTone; simp_all)
theorem in_X8_give_X4 : ∀ w ∈ wsX40, w ∈ wsX8_give := by decide +kernel
set_option maxHeartbeats 4000000 in
set_option maxRecDepth 100000 in
theorem c_X8_give_3 (l : Launch) (E : mEnv) (M : mMem) (sz : Nat) (h0 kn : Nat) (pi on ph : Int32) (le : UInt64) (tab : Option Nat) (kf : Nat → Int32) (tb : tbT)  (g_h0 : M h0 = some (mO 3 [.ref kn, .int pi, .int on, .int ph, .double le, va_rf (tab), .int 0])) (g_kn : M kn = some (mI E 4 kf))  : Met l yX8_give wsX8_give ({ frames := 0, cells := 0, slots := 0, locals := 0 }) (mPre E M sz [.ref h0]) (mQd E M sz (fun r u => r = sTone pi on ph ∧ u = M)) (0) (0) (mA M sz) := by
  refine m_met [.ref h0] (by decide) rfl (Nat.le_of_ble_eq_true rfl) ?_
  intro p e s m below meth c ls H eH hx hb hr hts hown hlocks hnm hml hsz hE hM hS hA hl
  have hl : lv_has ls 1 [(0, .ref h0)] := hl
  refine lv_aload_n hx hb dX8_give_0 rfl (lv_at hl 0 rfl) ?_
  refine m_get (ci := 3) (v := .int on) (C := RX4) (T := TX4) (N := 7) hx hb hts in_X8_give_X4 hown hE hM g_h0 rfl 2 (by decide) (hts (.fieldLink RX8 7 "CallWays2$Tone" "on" "Z") (by decide +kernel)) (u_same (hts (.sameField "CallWays2$Tone" "CallWays2$Instrument" "on" "Z") (by decide +kernel))) rfl dX8_give_1 ?_
  refine lv_if_eq (tgt := 28) hx hb dX8_give_4 (by decide) (fun c_4 => ?_) (fun c_4 => ?_)
  · skip
    refine lv_dconst0 hx hb dX8_give_28 ?_
    exact m_dret hx hb hr hlocks hM hS (Nat.le_refl _) (Nat.le_refl _) dX8_give_29 (by refine ⟨?_, rfl⟩; unfold sTone; simp_all)
  · skip
    refine lv_aload_n hx hb dX8_give_7 rfl (lv_at hl 0 rfl) ?_
    refine m_get (ci := 3) (v := .int ph) (C := RX4) (T := TX4) (N := 7) hx hb hts in_X8_give_X4 hown hE hM g_h0 rfl 3 (by decide) (hts (.fieldLink RX8 13 "CallWays2$Tone" "phase" "I") (by decide +kernel)) (u_same (hts (.sameField "CallWays2$Tone" "CallWays2$Instrument" "phase" "I") (by decide +kernel))) rfl dX8_give_8 ?_
    refine lv_aload_n hx hb dX8_give_11 rfl (lv_at hl 0 rfl) ?_
    refine m_get (ci := 3) (v := .int pi) (C := RX4) (T := TX4) (N := 7) hx hb hts in_X8_give_X4 hown hE hM g_h0 rfl 1 (by decide) (hts (.fieldLink RX8 17 "CallWays2$Tone" "pitch" "I") (by decide +kernel)) (u_same (hts (.sameField "CallWays2$Tone" "CallWays2$Instrument" "pitch" "I") (by decide +kernel))) rfl dX8_give_12 ?_
    refine lv_imul hx hb dX8_give_15 ?_
    refine lv_sipush (v := 256) hx hb dX8_give_16 (by decide) ?_
    refine lv_irem hx hb dX8_give_19 (by decide) ?_
    refine lv_sipush (v := 128) hx hb dX8_give_20 (by decide) ?_
    refine lv_isub hx hb dX8_give_23 ?_
    refine lv_i2d hx hb dX8_give_24 ?_
    refine lv_goto (tgt := 29) hx hb dX8_give_25 (by decide) ?_
    exact m_dret hx hb hr hlocks hM hS (Nat.le_refl _) (Nat.le_refl _) dX8_give_29 (by refine ⟨?_, rfl⟩; unfold sTone; simp_all)
theorem in_X4_give_X4 : ∀ w ∈ wsX40, w ∈ wsX4_give := by decide +kernel
set_option maxHeartbeats 4000000 in
set_option maxRecDepth 100000 in
theorem c_X4_give (l : Launch) (E : mEnv) (M : mMem) (sz : Nat) (h0 kn : Nat) (pi on ph : Int32) (le : UInt64) (tab : Option Nat) (kf : Nat → Int32) (tb : tbT)  (g_h0 : M h0 = some (mO 3 [.ref kn, .int pi, .int on, .int ph, .double le, va_rf (tab), .int 0])) (g_kn : M kn = some (mI E 4 kf))  : Met l yX4_give wsX4_give ({ frames := 1, cells := 0, slots := 0, locals := 20 }) (mPre E M sz [.ref h0]) (mQd E M sz (fun r u => r = (sGive 3 kf pi on ph le tb).2.1 ∧ u = mUp M h0 (mO 3 [.ref kn, .int pi, .int on, .int ph, .double (sGive 3 kf pi on ph le tb).2.2, va_rf (tab), .int (sGive 3 kf pi on ph le tb).1]))) (0) (0) (mA M sz) := by
  refine m_met [.ref h0] (by decide) rfl (Nat.le_of_ble_eq_true rfl) ?_
  intro p e s m below meth c ls H eH hx hb hr hts hown hlocks hnm hml hsz hE hM hS hA hl
  have hl : lv_has ls 1 [(0, .ref h0)] := hl
  refine lv_ldc2d hx hb hown (hts (.constantDouble RX4 7 (4611686018427387904)) (by decide +kernel)) dX4_give_0 ?_
  refine lv_aload_n hx hb dX4_give_3 rfl (lv_at hl 0 rfl) ?_
  refine m_calld (va_runSU (hE.1.1 3 _ rfl).2 (As := []) (rest := [.double 4611686018427387904]) ⟨hx, hb, hml, hown, hts⟩ (c_X8_give_3 l E M H.size h0 kn pi on ph le tab kf tb g_h0 g_kn) (va_cwSU 0 hts gX4_give_X8_give_s9 rfl rfl rfl (by decide +kernel) ⟨Nat.le_of_ble_eq_true rfl, Nat.le_of_ble_eq_true rfl⟩) (m_preV hE hM g_h0 rfl) rfl rfl hl.1 rfl (lv_room (Nat.le_of_ble_eq_true rfl)) dX4_give_4 ⟨Nat.le_of_ble_eq_true rfl, Nat.le_of_ble_eq_true rfl⟩) hM hS hA (fun r1 u H locs hw hM hS => ?_)
  obtain ⟨e_r1, eu⟩ := hw
  rw [eu] at hM
  subst e_r1
  refine lv_dmul hx hb dX4_give_7 (nn_mul fin_2 ((dB_tone pi on ph).fin (by decide))) ?_
  refine lv_aload_n hx hb dX4_give_8 rfl (lv_at hl 0 rfl) ?_
  refine m_get (ci := 3) (v := .ref kn) (C := RX4) (T := TX4) (N := 7) hx hb hts in_X4_give_X4 hown hE hM g_h0 rfl 0 (by decide) (hts (.fieldLink RX4 13 "CallWays2$Glass" "knobs" "[I") (by decide +kernel)) (u_same (hts (.sameField "CallWays2$Glass" "CallWays2$Instrument" "knobs" "[I") (by decide +kernel))) rfl dX4_give_9 ?_
  refine lv_iconst (v := 0) hx hb dX4_give_12 (by decide) ?_
  refine m_iald hx hb hE hM g_kn (by unfold vp_in; decide) dX4_give_13 ?_
  refine lv_i2d hx hb dX4_give_14 ?_
  refine lv_dadd hx hb dX4_give_15 (nn_add ((dB_mul (K := 1025) (by unfold dB; decide) (dB_tone pi on ph) (by decide) (by decide)).fin (by decide)) (fin_i2d _)) ?_
  exact m_dret hx hb hr hlocks hM hS (Nat.le_refl _) (Nat.le_refl _) dX4_give_16 (by exact ⟨rfl, (mUp_id g_h0).symm⟩)
theorem in_X2_give_X0 : ∀ w ∈ wsX00, w ∈ wsX2_give := by decide +kernel
set_option maxHeartbeats 4000000 in
set_option maxRecDepth 100000 in
theorem c_X2_give_0 (l : Launch) (E : mEnv) (M : mMem) (sz : Nat) (h0 kn : Nat) (pi on ph : Int32) (le : UInt64) (tab : Option Nat) (kf : Nat → Int32) (tb : tbT) (hle : dL le) (g_h0 : M h0 = some (mO 0 [.ref kn, .int pi, .int on, .int ph, .double le, va_rf (tab), .int 0])) (g_kn : M kn = some (mI E 4 kf))  : Met l yX2_give wsX2_give ({ frames := 1, cells := 0, slots := 0, locals := 21 }) (mPre E M sz [.ref h0]) (mQd E M sz (fun r u => r = (sDrum (kf 1) le).2.1 ∧ u = mUp M h0 (mO 0 [.ref kn, .int pi, .int on, .int ph, .double (sDrum (kf 1) le).2.2, va_rf (tab), .int (sDrum (kf 1) le).1]))) (0) (0) (mA M sz) := by
  refine m_met [.ref h0] (by decide) rfl (Nat.le_of_ble_eq_true rfl) ?_
  intro p e s m below meth c ls H eH hx hb hr hts hown hlocks hnm hml hsz hE hM hS hA hl
  have hl : lv_has ls 4 [(0, .ref h0)] := hl
  refine lv_aload_n hx hb dX2_give_0 rfl (lv_at hl 0 rfl) ?_
  refine m_get (ci := 0) (v := .ref kn) (C := RX0) (T := TX0) (N := 7) hx hb hts in_X2_give_X0 hown hE hM g_h0 rfl 0 (by decide) (hts (.fieldLink RX2 19 "CallWays2$Drum" "knobs" "[I") (by decide +kernel)) (u_same (hts (.sameField "CallWays2$Drum" "CallWays2$Instrument" "knobs" "[I") (by decide +kernel))) rfl dX2_give_1 ?_
  refine lv_iconst (v := 1) hx hb dX2_give_4 (by decide) ?_
  refine m_iald hx hb hE hM g_kn (by unfold vp_in; decide) dX2_give_5 ?_
  rw [show kf (1 : Int32).toNatClampNeg = kf 1 from rfl]
  refine lv_istore_n (lv' := [(1, .int (kf 1)), (0, .ref h0)]) hx hb dX2_give_6 rfl hl (by decide) rfl (fun ls hl => ?_)
  refine lv_iload_n hx hb dX2_give_7 rfl (lv_at hl 0 rfl) ?_
  refine lv_if_ne (tgt := 18) hx hb dX2_give_8 (by decide) (fun c_8 => ?_) (fun c_8 => ?_)
  · skip
    refine lv_aload_n hx hb dX2_give_18 rfl (lv_at hl 1 rfl) ?_
    refine m_get (ci := 0) (v := .double le) (C := RX0) (T := TX0) (N := 7) hx hb hts in_X2_give_X0 hown hE hM g_h0 rfl 4 (by decide) (hts (.fieldLink RX2 13 "CallWays2$Drum" "level" "D") (by decide +kernel)) (u_same (hts (.sameField "CallWays2$Drum" "CallWays2$Instrument" "level" "D") (by decide +kernel))) rfl dX2_give_19 ?_
    refine lv_dstore_n (lv' := [(2, .double le), (1, .int (kf 1)), (0, .ref h0)]) hx hb dX2_give_22 rfl hl (by decide) rfl (fun ls hl => ?_)
    refine lv_aload_n hx hb dX2_give_23 rfl (lv_at hl 2 rfl) ?_
    refine lv_aload_n hx hb dX2_give_24 rfl (lv_at hl 2 rfl) ?_
    refine m_get (ci := 0) (v := .double le) (C := RX0) (T := TX0) (N := 7) hx hb hts in_X2_give_X0 hown hE hM g_h0 rfl 4 (by decide) (hts (.fieldLink RX2 13 "CallWays2$Drum" "level" "D") (by decide +kernel)) (u_same (hts (.sameField "CallWays2$Drum" "CallWays2$Instrument" "level" "D") (by decide +kernel))) rfl dX2_give_25 ?_
    refine lv_sipush (v := 1000) hx hb dX2_give_28 (by decide) ?_
    refine lv_iload_n hx hb dX2_give_31 rfl (lv_at hl 1 rfl) ?_
    refine lv_idiv hx hb dX2_give_32 c_8 ?_
    refine lv_i2d hx hb dX2_give_33 ?_
    refine lv_dmul hx hb dX2_give_34 (nn_mul (hle.b.fin (by decide)) (fin_i2d _)) ?_
    refine lv_ldc2d hx hb hown (hts (.constantDouble RX2 27 (4652007308841189376)) (by decide +kernel)) dX2_give_35 ?_
    refine lv_ddiv hx hb dX2_give_38 (nn_div ((dB_mul hle.b (dB_i2d _) (by decide) (by decide)).fin (by decide)) fin_1000 nz_1000) ?_
    refine m_put (ci := 0) (v := .double (FP.ddiv (FP.dmul le (FP.i2d (1000 / (kf 1)))) 4652007308841189376)) (ty := .double) (C := RX0) (T := TX0) (N := 7) hx hb hts in_X2_give_X0 tyX0 tyX0_ok nmX0 hown hE hM hS g_h0 rfl 4 (by decide) (hts (.fieldLink RX2 13 "CallWays2$Drum" "level" "D") (by decide +kernel)) (u_same (hts (.sameField "CallWays2$Drum" "CallWays2$Instrument" "level" "D") (by decide +kernel))) rfl (by decide +kernel) rfl rfl (Nat.le_of_ble_eq_true rfl) dX2_give_39 (fun H locs hM hS => ?_)
    have hM : mOK E.1 (mA M sz) (mUp M h0 (mO 0 [.ref kn, .int pi, .int on, .int ph, .double (FP.ddiv (FP.dmul le (FP.i2d (1000 / (kf 1)))) 4652007308841189376), va_rf (tab), .int 0])) H := hM
    obtain ⟨M1, eM1⟩ : ∃ z, z = mUp M h0 (mO 0 [.ref kn, .int pi, .int on, .int ph, .double (FP.ddiv (FP.dmul le (FP.i2d (1000 / (kf 1)))) 4652007308841189376), va_rf (tab), .int 0]) := ⟨_, rfl⟩
    rw [← eM1] at hM
    have g_kn_ : M1 kn = some (mI E 4 kf) := by rw [eM1]; exact mUp_at (m_ne g_kn g_h0 (by simp)) g_kn
    have g_kn := g_kn_
    have g_h0 : M1 h0 = some (mO 0 [.ref kn, .int pi, .int on, .int ph, .double (FP.ddiv (FP.dmul le (FP.i2d (1000 / (kf 1)))) 4652007308841189376), va_rf (tab), .int 0]) := by rw [eM1]; exact mUp_self _ _ _
    refine lv_dload_n hx hb dX2_give_42 rfl (lv_at hl 0 rfl) ?_
    exact m_dret hx hb hr hlocks hM hS (Nat.le_refl _) (Nat.le_refl _) dX2_give_43 (by rw [eM1]; unfold sDrum; rw [if_neg c_8]; exact ⟨rfl, rfl⟩)
  · skip
    refine lv_aload_n hx hb dX2_give_11 rfl (lv_at hl 1 rfl) ?_
    refine lv_bipush (v := -4) hx hb dX2_give_12 (by decide) ?_
    refine m_calld (va_runU (As := [.int (-4)]) (rest := []) ⟨hx, hb, hml, hown, hts⟩ (c_X5_fail l E M H.size 0 (by unfold insK; decide) h0 kn pi on ph 0 le tab (-4) g_h0) (va_cwU 1 hts gX2_give_X5_fail_u23X0 rfl rfl rfl rfl (by decide +kernel) ⟨Nat.le_of_ble_eq_true rfl, Nat.le_of_ble_eq_true rfl⟩) (m_preV hE hM g_h0 rfl) rfl rfl hl.1 rfl (lv_room (Nat.le_of_ble_eq_true rfl)) dX2_give_14 ⟨Nat.le_of_ble_eq_true rfl, Nat.le_of_ble_eq_true rfl⟩) hM hS hA (fun r1 M2 H locs hw hM hS => ?_)
    obtain ⟨e_r1, eM2⟩ := hw
    exact m_dret hx hb hr hlocks hM hS (Nat.le_refl _) (Nat.le_refl _) dX2_give_17 (by rw [e_r1, eM2]; unfold sDrum; rw [if_pos c_8]; exact ⟨rfl, rfl⟩)
theorem in_X2_give_X2 : ∀ w ∈ wsX20, w ∈ wsX2_give := by decide +kernel
set_option maxHeartbeats 4000000 in
set_option maxRecDepth 100000 in
theorem c_X2_give_1 (l : Launch) (E : mEnv) (M : mMem) (sz : Nat) (h0 kn : Nat) (pi on ph : Int32) (le : UInt64) (tab : Option Nat) (kf : Nat → Int32) (tb : tbT) (hle : dL le) (g_h0 : M h0 = some (mO 1 [.ref kn, .int pi, .int on, .int ph, .double le, va_rf (tab), .int 0])) (g_kn : M kn = some (mI E 4 kf))  : Met l yX2_give wsX2_give ({ frames := 1, cells := 0, slots := 0, locals := 21 }) (mPre E M sz [.ref h0]) (mQd E M sz (fun r u => r = (sDrum (kf 1) le).2.1 ∧ u = mUp M h0 (mO 1 [.ref kn, .int pi, .int on, .int ph, .double (sDrum (kf 1) le).2.2, va_rf (tab), .int (sDrum (kf 1) le).1]))) (0) (0) (mA M sz) := by
  refine m_met [.ref h0] (by decide) rfl (Nat.le_of_ble_eq_true rfl) ?_
  intro p e s m below meth c ls H eH hx hb hr hts hown hlocks hnm hml hsz hE hM hS hA hl
  have hl : lv_has ls 4 [(0, .ref h0)] := hl
  refine lv_aload_n hx hb dX2_give_0 rfl (lv_at hl 0 rfl) ?_
  refine m_get (ci := 1) (v := .ref kn) (C := RX2) (T := TX2) (N := 7) hx hb hts in_X2_give_X2 hown hE hM g_h0 rfl 0 (by decide) (hts (.fieldLink RX2 19 "CallWays2$Drum" "knobs" "[I") (by decide +kernel)) (u_same (hts (.sameField "CallWays2$Drum" "CallWays2$Instrument" "knobs" "[I") (by decide +kernel))) rfl dX2_give_1 ?_
  refine lv_iconst (v := 1) hx hb dX2_give_4 (by decide) ?_
  refine m_iald hx hb hE hM g_kn (by unfold vp_in; decide) dX2_give_5 ?_
  rw [show kf (1 : Int32).toNatClampNeg = kf 1 from rfl]
  refine lv_istore_n (lv' := [(1, .int (kf 1)), (0, .ref h0)]) hx hb dX2_give_6 rfl hl (by decide) rfl (fun ls hl => ?_)
  refine lv_iload_n hx hb dX2_give_7 rfl (lv_at hl 0 rfl) ?_
  refine lv_if_ne (tgt := 18) hx hb dX2_give_8 (by decide) (fun c_8 => ?_) (fun c_8 => ?_)
  · skip
    refine lv_aload_n hx hb dX2_give_18 rfl (lv_at hl 1 rfl) ?_
    refine m_get (ci := 1) (v := .double le) (C := RX2) (T := TX2) (N := 7) hx hb hts in_X2_give_X2 hown hE hM g_h0 rfl 4 (by decide) (hts (.fieldLink RX2 13 "CallWays2$Drum" "level" "D") (by decide +kernel)) (u_same (hts (.sameField "CallWays2$Drum" "CallWays2$Instrument" "level" "D") (by decide +kernel))) rfl dX2_give_19 ?_
    refine lv_dstore_n (lv' := [(2, .double le), (1, .int (kf 1)), (0, .ref h0)]) hx hb dX2_give_22 rfl hl (by decide) rfl (fun ls hl => ?_)
    refine lv_aload_n hx hb dX2_give_23 rfl (lv_at hl 2 rfl) ?_
    refine lv_aload_n hx hb dX2_give_24 rfl (lv_at hl 2 rfl) ?_
    refine m_get (ci := 1) (v := .double le) (C := RX2) (T := TX2) (N := 7) hx hb hts in_X2_give_X2 hown hE hM g_h0 rfl 4 (by decide) (hts (.fieldLink RX2 13 "CallWays2$Drum" "level" "D") (by decide +kernel)) (u_same (hts (.sameField "CallWays2$Drum" "CallWays2$Instrument" "level" "D") (by decide +kernel))) rfl dX2_give_25 ?_
    refine lv_sipush (v := 1000) hx hb dX2_give_28 (by decide) ?_
    refine lv_iload_n hx hb dX2_give_31 rfl (lv_at hl 1 rfl) ?_
    refine lv_idiv hx hb dX2_give_32 c_8 ?_
    refine lv_i2d hx hb dX2_give_33 ?_
    refine lv_dmul hx hb dX2_give_34 (nn_mul (hle.b.fin (by decide)) (fin_i2d _)) ?_
    refine lv_ldc2d hx hb hown (hts (.constantDouble RX2 27 (4652007308841189376)) (by decide +kernel)) dX2_give_35 ?_
    refine lv_ddiv hx hb dX2_give_38 (nn_div ((dB_mul hle.b (dB_i2d _) (by decide) (by decide)).fin (by decide)) fin_1000 nz_1000) ?_
    refine m_put (ci := 1) (v := .double (FP.ddiv (FP.dmul le (FP.i2d (1000 / (kf 1)))) 4652007308841189376)) (ty := .double) (C := RX2) (T := TX2) (N := 7) hx hb hts in_X2_give_X2 tyX2 tyX2_ok nmX2 hown hE hM hS g_h0 rfl 4 (by decide) (hts (.fieldLink RX2 13 "CallWays2$Drum" "level" "D") (by decide +kernel)) (u_same (hts (.sameField "CallWays2$Drum" "CallWays2$Instrument" "level" "D") (by decide +kernel))) rfl (by decide +kernel) rfl rfl (Nat.le_of_ble_eq_true rfl) dX2_give_39 (fun H locs hM hS => ?_)
    have hM : mOK E.1 (mA M sz) (mUp M h0 (mO 1 [.ref kn, .int pi, .int on, .int ph, .double (FP.ddiv (FP.dmul le (FP.i2d (1000 / (kf 1)))) 4652007308841189376), va_rf (tab), .int 0])) H := hM
    obtain ⟨M1, eM1⟩ : ∃ z, z = mUp M h0 (mO 1 [.ref kn, .int pi, .int on, .int ph, .double (FP.ddiv (FP.dmul le (FP.i2d (1000 / (kf 1)))) 4652007308841189376), va_rf (tab), .int 0]) := ⟨_, rfl⟩
    rw [← eM1] at hM
    have g_kn_ : M1 kn = some (mI E 4 kf) := by rw [eM1]; exact mUp_at (m_ne g_kn g_h0 (by simp)) g_kn
    have g_kn := g_kn_
    have g_h0 : M1 h0 = some (mO 1 [.ref kn, .int pi, .int on, .int ph, .double (FP.ddiv (FP.dmul le (FP.i2d (1000 / (kf 1)))) 4652007308841189376), va_rf (tab), .int 0]) := by rw [eM1]; exact mUp_self _ _ _
    refine lv_dload_n hx hb dX2_give_42 rfl (lv_at hl 0 rfl) ?_
    exact m_dret hx hb hr hlocks hM hS (Nat.le_refl _) (Nat.le_refl _) dX2_give_43 (by rw [eM1]; unfold sDrum; rw [if_neg c_8]; exact ⟨rfl, rfl⟩)
  · skip
    refine lv_aload_n hx hb dX2_give_11 rfl (lv_at hl 1 rfl) ?_
    refine lv_bipush (v := -4) hx hb dX2_give_12 (by decide) ?_
    refine m_calld (va_runU (As := [.int (-4)]) (rest := []) ⟨hx, hb, hml, hown, hts⟩ (c_X5_fail l E M H.size 1 (by unfold insK; decide) h0 kn pi on ph 0 le tab (-4) g_h0) (va_cwU 1 hts gX2_give_X5_fail_u23X2 rfl rfl rfl rfl (by decide +kernel) ⟨Nat.le_of_ble_eq_true rfl, Nat.le_of_ble_eq_true rfl⟩) (m_preV hE hM g_h0 rfl) rfl rfl hl.1 rfl (lv_room (Nat.le_of_ble_eq_true rfl)) dX2_give_14 ⟨Nat.le_of_ble_eq_true rfl, Nat.le_of_ble_eq_true rfl⟩) hM hS hA (fun r1 M2 H locs hw hM hS => ?_)
    obtain ⟨e_r1, eM2⟩ := hw
    exact m_dret hx hb hr hlocks hM hS (Nat.le_refl _) (Nat.le_refl _) dX2_give_17 (by rw [e_r1, eM2]; unfold sDrum; rw [if_pos c_8]; exact ⟨rfl, rfl⟩)
theorem in_X0_give_X0 : ∀ w ∈ wsX00, w ∈ wsX0_give := by decide +kernel
set_option maxHeartbeats 4000000 in
set_option maxRecDepth 100000 in
theorem c_X0_give (l : Launch) (E : mEnv) (M : mMem) (sz : Nat) (h0 kn : Nat) (pi on ph : Int32) (le : UInt64) (tab : Option Nat) (kf : Nat → Int32) (tb : tbT) (hle : dL le) (g_h0 : M h0 = some (mO 0 [.ref kn, .int pi, .int on, .int ph, .double le, va_rf (tab), .int 0])) (g_kn : M kn = some (mI E 4 kf))  : Met l yX0_give wsX0_give ({ frames := 2, cells := 0, slots := 0, locals := 44 }) (mPre E M sz [.ref h0]) (mQd E M sz (fun r u => r = (sGive 0 kf pi on ph le tb).2.1 ∧ u = mUp M h0 (mO 0 [.ref kn, .int pi, .int on, .int ph, .double (sGive 0 kf pi on ph le tb).2.2, va_rf (tab), .int (sGive 0 kf pi on ph le tb).1]))) (0) (0) (mA M sz) := by
  refine m_met [.ref h0] (by decide) rfl (Nat.le_of_ble_eq_true rfl) ?_
  intro p e s m below meth c ls H eH hx hb hr hts hown hlocks hnm hml hsz hE hM hS hA hl
  have hl : lv_has ls 3 [(0, .ref h0)] := hl
  refine lv_aload_n hx hb dX0_give_0 rfl (lv_at hl 0 rfl) ?_
  refine m_get (ci := 0) (v := .int ph) (C := RX0) (T := TX0) (N := 7) hx hb hts in_X0_give_X0 hown hE hM g_h0 rfl 3 (by decide) (hts (.fieldLink RX0 9 "CallWays2$Bell" "phase" "I") (by decide +kernel)) (u_same (hts (.sameField "CallWays2$Bell" "CallWays2$Instrument" "phase" "I") (by decide +kernel))) rfl dX0_give_1 ?_
  refine lv_aload_n hx hb dX0_give_4 rfl (lv_at hl 0 rfl) ?_
  refine m_get (ci := 0) (v := .ref kn) (C := RX0) (T := TX0) (N := 7) hx hb hts in_X0_give_X0 hown hE hM g_h0 rfl 0 (by decide) (hts (.fieldLink RX0 15 "CallWays2$Bell" "knobs" "[I") (by decide +kernel)) (u_same (hts (.sameField "CallWays2$Bell" "CallWays2$Instrument" "knobs" "[I") (by decide +kernel))) rfl dX0_give_5 ?_
  refine lv_iconst (v := 2) hx hb dX0_give_8 (by decide) ?_
  refine m_iald hx hb hE hM g_kn (by unfold vp_in; decide) dX0_give_9 ?_
  rw [show kf (2 : Int32).toNatClampNeg = kf 2 from rfl]
  refine lv_icmp_ne (tgt := 20) hx hb dX0_give_10 (by decide) (fun c_10 => ?_) (fun c_10 => ?_)
  · skip
    refine lv_aload_n hx hb dX0_give_20 rfl (lv_at hl 0 rfl) ?_
    refine m_calld (va_runSU (hE.1.1 0 _ rfl).2 (As := []) (rest := []) ⟨hx, hb, hml, hown, hts⟩ (c_X2_give_0 l E M H.size h0 kn pi on ph le tab kf tb hle g_h0 g_kn) (va_cwSU 0 hts gX0_give_X2_give_s23 rfl rfl rfl (by decide +kernel) ⟨Nat.le_of_ble_eq_true rfl, Nat.le_of_ble_eq_true rfl⟩) (m_preV hE hM g_h0 rfl) rfl rfl hl.1 rfl (lv_room (Nat.le_of_ble_eq_true rfl)) dX0_give_21 ⟨Nat.le_of_ble_eq_true rfl, Nat.le_of_ble_eq_true rfl⟩) hM hS hA (fun r1 M1 H locs hw hM hS => ?_)
    obtain ⟨e_r1, eM1⟩ := hw
    subst e_r1
    have g_kn_ : M1 kn = some (mI E 4 kf) := by rw [eM1]; exact mUp_at (m_ne g_kn g_h0 (by simp)) g_kn
    have g_kn := g_kn_
    have g_h0 : M1 h0 = some (mO 0 [.ref kn, .int pi, .int on, .int ph, .double ((sDrum (kf 1) le).2.2), va_rf (tab), .int ((sDrum (kf 1) le).1)]) := by rw [eM1]; exact mUp_self _ _ _
    refine lv_dstore_n (lv' := [(1, .double ((sDrum (kf 1) le).2.1)), (0, .ref h0)]) hx hb dX0_give_24 rfl hl (by decide) rfl (fun ls hl => ?_)
    refine lv_aload_n hx hb dX0_give_25 rfl (lv_at hl 1 rfl) ?_
    refine m_get (ci := 0) (v := .int ph) (C := RX0) (T := TX0) (N := 7) hx hb hts in_X0_give_X0 hown hE hM g_h0 rfl 3 (by decide) (hts (.fieldLink RX0 9 "CallWays2$Bell" "phase" "I") (by decide +kernel)) (u_same (hts (.sameField "CallWays2$Bell" "CallWays2$Instrument" "phase" "I") (by decide +kernel))) rfl dX0_give_26 ?_
    refine lv_iconst (v := 1) hx hb dX0_give_29 (by decide) ?_
    refine lv_iand hx hb dX0_give_30 ?_
    refine lv_if_ne (tgt := 38) hx hb dX0_give_31 (by decide) (fun c_31 => ?_) (fun c_31 => ?_)
    · skip
      refine lv_ldc2d hx hb hown (hts (.constantDouble RX0 27 (13830554455654793216)) (by decide +kernel)) dX0_give_38 ?_
      refine lv_dload_n hx hb dX0_give_41 rfl (lv_at hl 0 rfl) ?_
      refine lv_dmul hx hb dX0_give_42 (nn_mul fin_m1 ((dL_drum hle).1.b.fin (by decide))) ?_
      exact m_dret hx hb hr hlocks hM hS (Nat.le_refl _) (Nat.le_refl _) dX0_give_43 (by rw [eM1]; show _ = (sBell _ _ _ _).2.1 ∧ _ = mUp M h0 (mO 0 [_, _, _, _, .double (sBell _ _ _ _).2.2, _, .int (sBell _ _ _ _).1]); unfold sBell; rw [if_neg c_10]; first | (rw [if_pos c_31]; exact ⟨rfl, rfl⟩) | (rw [if_neg c_31]; exact ⟨rfl, rfl⟩))
    · skip
      refine lv_dload_n hx hb dX0_give_34 rfl (lv_at hl 0 rfl) ?_
      refine lv_goto (tgt := 43) hx hb dX0_give_35 (by decide) ?_
      exact m_dret hx hb hr hlocks hM hS (Nat.le_refl _) (Nat.le_refl _) dX0_give_43 (by rw [eM1]; show _ = (sBell _ _ _ _).2.1 ∧ _ = mUp M h0 (mO 0 [_, _, _, _, .double (sBell _ _ _ _).2.2, _, .int (sBell _ _ _ _).1]); unfold sBell; rw [if_neg c_10]; first | (rw [if_pos c_31]; exact ⟨rfl, rfl⟩) | (rw [if_neg c_31]; exact ⟨rfl, rfl⟩))
  · skip
    refine lv_aload_n hx hb dX0_give_13 rfl (lv_at hl 0 rfl) ?_
    refine lv_bipush (v := -3) hx hb dX0_give_14 (by decide) ?_
    refine m_calld (va_runU (As := [.int (-3)]) (rest := []) ⟨hx, hb, hml, hown, hts⟩ (c_X5_fail l E M H.size 0 (by unfold insK; decide) h0 kn pi on ph 0 le tab (-3) g_h0) (va_cwU 1 hts gX0_give_X5_fail_u19X0 rfl rfl rfl rfl (by decide +kernel) ⟨Nat.le_of_ble_eq_true rfl, Nat.le_of_ble_eq_true rfl⟩) (m_preV hE hM g_h0 rfl) rfl rfl hl.1 rfl (lv_room (Nat.le_of_ble_eq_true rfl)) dX0_give_16 ⟨Nat.le_of_ble_eq_true rfl, Nat.le_of_ble_eq_true rfl⟩) hM hS hA (fun r1 M2 H locs hw hM hS => ?_)
    obtain ⟨e_r1, eM2⟩ := hw
    exact m_dret hx hb hr hlocks hM hS (Nat.le_refl _) (Nat.le_refl _) dX0_give_19 (by rw [e_r1, eM2]; show _ = (sBell _ _ _ _).2.1 ∧ _ = mUp M h0 (mO 0 [_, _, _, _, .double (sBell _ _ _ _).2.2, _, .int (sBell _ _ _ _).1]); unfold sBell; rw [if_pos c_10]; exact ⟨rfl, rfl⟩)
theorem in_X6_give_X6 : ∀ w ∈ wsX60, w ∈ wsX6_give := by decide +kernel
set_option maxHeartbeats 4000000 in
set_option maxRecDepth 100000 in
theorem c_X6_give_n (l : Launch) (E : mEnv) (M : mMem) (sz : Nat) (h0 kn : Nat) (pi on ph : Int32) (le : UInt64) (kf : Nat → Int32)  (g_h0 : M h0 = some (mO 4 [.ref kn, .int pi, .int on, .int ph, .double le, .null, .int 0])) (g_kn : M kn = some (mI E 4 kf))  : Met l yX6_give wsX6_give ({ frames := 1, cells := 0, slots := 0, locals := 21 }) (mPre E M sz [.ref h0]) (mQd E M sz (fun r u => r = (sGive 4 kf pi on ph le none).2.1 ∧ u = mUp M h0 (mO 4 [.ref kn, .int pi, .int on, .int ph, .double le, .null, .int (sGive 4 kf pi on ph le none).1]))) (0) (0) (mA M sz) := by
  refine m_met [.ref h0] (by decide) rfl (Nat.le_of_ble_eq_true rfl) ?_
  intro p e s m below meth c ls H eH hx hb hr hts hown hlocks hnm hml hsz hE hM hS hA hl
  have hl : lv_has ls 2 [(0, .ref h0)] := hl
  refine lv_aload_n hx hb dX6_give_0 rfl (lv_at hl 0 rfl) ?_
  refine m_get (ci := 4) (v := .int on) (C := RX6) (T := TX6) (N := 7) hx hb hts in_X6_give_X6 hown hE hM g_h0 rfl 2 (by decide) (hts (.fieldLink RX6 9 "CallWays2$Reader" "on" "Z") (by decide +kernel)) (u_same (hts (.sameField "CallWays2$Reader" "CallWays2$Instrument" "on" "Z") (by decide +kernel))) rfl dX6_give_1 ?_
  refine lv_if_ne (tgt := 24) hx hb dX6_give_4 (by decide) (fun c_4 => ?_) (fun c_4 => ?_)
  · skip
    refine lv_aload_n hx hb dX6_give_24 rfl (lv_at hl 0 rfl) ?_
    refine m_get (ci := 4) (v := .null) (C := RX6) (T := TX6) (N := 7) hx hb hts in_X6_give_X6 hown hE hM g_h0 rfl 5 (by decide) (hts (.fieldLink RX6 23 "CallWays2$Reader" "table" "LCallWays2$Samples;") (by decide +kernel)) (u_same (hts (.sameField "CallWays2$Reader" "CallWays2$Instrument" "table" "LCallWays2$Samples;") (by decide +kernel))) rfl dX6_give_25 ?_
    refine lv_ifnonnullN hx hb dX6_give_28 ?_
    refine lv_aload_n hx hb dX6_give_31 rfl (lv_at hl 0 rfl) ?_
    refine lv_bipush (v := -5) hx hb dX6_give_32 (by decide) ?_
    refine m_calld (va_runU (As := [.int (-5)]) (rest := []) ⟨hx, hb, hml, hown, hts⟩ (c_X5_fail l E M H.size 4 (by unfold insK; decide) h0 kn pi on ph 0 le none (-5) g_h0) (va_cwU 1 hts gX6_give_X5_fail_u19X6 rfl rfl rfl rfl (by decide +kernel) ⟨Nat.le_of_ble_eq_true rfl, Nat.le_of_ble_eq_true rfl⟩) (m_preV hE hM g_h0 rfl) rfl rfl hl.1 rfl (lv_room (Nat.le_of_ble_eq_true rfl)) dX6_give_34 ⟨Nat.le_of_ble_eq_true rfl, Nat.le_of_ble_eq_true rfl⟩) hM hS hA (fun r1 M1 H locs hw hM hS => ?_)
    obtain ⟨e_r1, eM1⟩ := hw
    exact m_dret hx hb hr hlocks hM hS (Nat.le_refl _) (Nat.le_refl _) dX6_give_37 (by rw [e_r1, eM1]; show _ = (sRead _ _ _ _).2 ∧ _ = mUp M h0 (mO 4 [_, _, _, _, _, _, .int (sRead _ _ _ _).1]); unfold sRead; rw [if_neg (fun h => by first | exact c_4 h.1 | exact h.2 c_14)]; exact ⟨rfl, rfl⟩)
  · skip
    refine lv_aload_n hx hb dX6_give_7 rfl (lv_at hl 0 rfl) ?_
    refine m_get (ci := 4) (v := .int ph) (C := RX6) (T := TX6) (N := 7) hx hb hts in_X6_give_X6 hown hE hM g_h0 rfl 3 (by decide) (hts (.fieldLink RX6 15 "CallWays2$Reader" "phase" "I") (by decide +kernel)) (u_same (hts (.sameField "CallWays2$Reader" "CallWays2$Instrument" "phase" "I") (by decide +kernel))) rfl dX6_give_8 ?_
    refine lv_bipush (v := 8) hx hb dX6_give_11 (by decide) ?_
    refine lv_irem hx hb dX6_give_13 (by decide) ?_
    refine lv_if_ge (tgt := 24) hx hb dX6_give_14 (by decide) (fun c_14 => ?_) (fun c_14 => ?_)
    · skip
      refine lv_aload_n hx hb dX6_give_24 rfl (lv_at hl 0 rfl) ?_
      refine m_get (ci := 4) (v := .null) (C := RX6) (T := TX6) (N := 7) hx hb hts in_X6_give_X6 hown hE hM g_h0 rfl 5 (by decide) (hts (.fieldLink RX6 23 "CallWays2$Reader" "table" "LCallWays2$Samples;") (by decide +kernel)) (u_same (hts (.sameField "CallWays2$Reader" "CallWays2$Instrument" "table" "LCallWays2$Samples;") (by decide +kernel))) rfl dX6_give_25 ?_
      refine lv_ifnonnullN hx hb dX6_give_28 ?_
      refine lv_aload_n hx hb dX6_give_31 rfl (lv_at hl 0 rfl) ?_
      refine lv_bipush (v := -5) hx hb dX6_give_32 (by decide) ?_
      refine m_calld (va_runU (As := [.int (-5)]) (rest := []) ⟨hx, hb, hml, hown, hts⟩ (c_X5_fail l E M H.size 4 (by unfold insK; decide) h0 kn pi on ph 0 le none (-5) g_h0) (va_cwU 1 hts gX6_give_X5_fail_u19X6 rfl rfl rfl rfl (by decide +kernel) ⟨Nat.le_of_ble_eq_true rfl, Nat.le_of_ble_eq_true rfl⟩) (m_preV hE hM g_h0 rfl) rfl rfl hl.1 rfl (lv_room (Nat.le_of_ble_eq_true rfl)) dX6_give_34 ⟨Nat.le_of_ble_eq_true rfl, Nat.le_of_ble_eq_true rfl⟩) hM hS hA (fun r1 M2 H locs hw hM hS => ?_)
      obtain ⟨e_r1, eM2⟩ := hw
      exact m_dret hx hb hr hlocks hM hS (Nat.le_refl _) (Nat.le_refl _) dX6_give_37 (by rw [e_r1, eM2]; show _ = (sRead _ _ _ _).2 ∧ _ = mUp M h0 (mO 4 [_, _, _, _, _, _, .int (sRead _ _ _ _).1]); unfold sRead; rw [if_neg (fun h => by first | exact c_4 h.1 | exact h.2 c_14)]; exact ⟨rfl, rfl⟩)
    · skip
      refine lv_aload_n hx hb dX6_give_17 rfl (lv_at hl 0 rfl) ?_
      refine lv_bipush (v := -8) hx hb dX6_give_18 (by decide) ?_
      refine m_calld (va_runU (As := [.int (-8)]) (rest := []) ⟨hx, hb, hml, hown, hts⟩ (c_X5_fail l E M H.size 4 (by unfold insK; decide) h0 kn pi on ph 0 le none (-8) g_h0) (va_cwU 1 hts gX6_give_X5_fail_u19X6 rfl rfl rfl rfl (by decide +kernel) ⟨Nat.le_of_ble_eq_true rfl, Nat.le_of_ble_eq_true rfl⟩) (m_preV hE hM g_h0 rfl) rfl rfl hl.1 rfl (lv_room (Nat.le_of_ble_eq_true rfl)) dX6_give_20 ⟨Nat.le_of_ble_eq_true rfl, Nat.le_of_ble_eq_true rfl⟩) hM hS hA (fun r1 M3 H locs hw hM hS => ?_)
      obtain ⟨e_r1, eM3⟩ := hw
      exact m_dret hx hb hr hlocks hM hS (Nat.le_refl _) (Nat.le_refl _) dX6_give_23 (by rw [e_r1, eM3]; show _ = (sRead _ _ _ _).2 ∧ _ = mUp M h0 (mO 4 [_, _, _, _, _, _, .int (sRead _ _ _ _).1]); unfold sRead; rw [if_pos ⟨c_4, c_14⟩]; exact ⟨rfl, rfl⟩)
theorem in_X6_give_X7 : ∀ w ∈ wsX70, w ∈ wsX6_give := by decide +kernel
set_option maxHeartbeats 4000000 in
set_option maxRecDepth 100000 in
theorem c_X6_give_s (l : Launch) (E : mEnv) (M : mMem) (sz : Nat) (h0 kn : Nat) (pi on ph : Int32) (le : UInt64) (kf : Nat → Int32) (t v n : Nat) (lane : Int32) (f : Nat → UInt64) (hn0 : n < 2 ^ 31)  (g_h0 : M h0 = some (mO 4 [.ref kn, .int pi, .int on, .int ph, .double le, .ref t, .int 0])) (g_kn : M kn = some (mI E 4 kf)) (g_t : M t = some (mO 5 [.int lane, .ref v])) (g_v : M v = some (mDb E n f))  : Met l yX6_give wsX6_give ({ frames := 1, cells := 0, slots := 0, locals := 21 }) (mPre E M sz [.ref h0]) (mQd E M sz (fun r u => r = (sGive 4 kf pi on ph le (some (lane, n, f))).2.1 ∧ u = mUp M h0 (mO 4 [.ref kn, .int pi, .int on, .int ph, .double le, .ref t, .int (sGive 4 kf pi on ph le (some (lane, n, f))).1]))) (0) (0) (mA M sz) := by
  refine m_met [.ref h0] (by decide) rfl (Nat.le_of_ble_eq_true rfl) ?_
  intro p e s m below meth c ls H eH hx hb hr hts hown hlocks hnm hml hsz hE hM hS hA hl
  have hl : lv_has ls 2 [(0, .ref h0)] := hl
  refine lv_aload_n hx hb dX6_give_0 rfl (lv_at hl 0 rfl) ?_
  refine m_get (ci := 4) (v := .int on) (C := RX6) (T := TX6) (N := 7) hx hb hts in_X6_give_X6 hown hE hM g_h0 rfl 2 (by decide) (hts (.fieldLink RX6 9 "CallWays2$Reader" "on" "Z") (by decide +kernel)) (u_same (hts (.sameField "CallWays2$Reader" "CallWays2$Instrument" "on" "Z") (by decide +kernel))) rfl dX6_give_1 ?_
  refine lv_if_ne (tgt := 24) hx hb dX6_give_4 (by decide) (fun c_4 => ?_) (fun c_4 => ?_)
  · skip
    refine lv_aload_n hx hb dX6_give_24 rfl (lv_at hl 0 rfl) ?_
    refine m_get (ci := 4) (v := .ref t) (C := RX6) (T := TX6) (N := 7) hx hb hts in_X6_give_X6 hown hE hM g_h0 rfl 5 (by decide) (hts (.fieldLink RX6 23 "CallWays2$Reader" "table" "LCallWays2$Samples;") (by decide +kernel)) (u_same (hts (.sameField "CallWays2$Reader" "CallWays2$Instrument" "table" "LCallWays2$Samples;") (by decide +kernel))) rfl dX6_give_25 ?_
    refine lv_ifnonnull (tgt := 38) hx hb dX6_give_28 (by decide) ?_
    refine lv_aload_n hx hb dX6_give_38 rfl (lv_at hl 0 rfl) ?_
    refine m_get (ci := 4) (v := .ref t) (C := RX6) (T := TX6) (N := 7) hx hb hts in_X6_give_X6 hown hE hM g_h0 rfl 5 (by decide) (hts (.fieldLink RX6 23 "CallWays2$Reader" "table" "LCallWays2$Samples;") (by decide +kernel)) (u_same (hts (.sameField "CallWays2$Reader" "CallWays2$Instrument" "table" "LCallWays2$Samples;") (by decide +kernel))) rfl dX6_give_39 ?_
    refine m_get (ci := 5) (v := .int lane) (C := RX7) (T := TX7) (N := 2) hx hb hts in_X6_give_X7 hown hE hM g_t rfl 0 (by decide) (hts (.fieldLink RX6 27 "CallWays2$Samples" "lane" "I") (by decide +kernel)) (fun _ h9 => h9) rfl dX6_give_42 ?_
    refine lv_iconst (v := 1) hx hb dX6_give_45 (by decide) ?_
    refine lv_icmp_eq (tgt := 56) hx hb dX6_give_46 (by decide) (fun c_46 => ?_) (fun c_46 => ?_)
    · skip
      refine lv_aload_n hx hb dX6_give_56 rfl (lv_at hl 0 rfl) ?_
      refine m_get (ci := 4) (v := .int ph) (C := RX6) (T := TX6) (N := 7) hx hb hts in_X6_give_X6 hown hE hM g_h0 rfl 3 (by decide) (hts (.fieldLink RX6 15 "CallWays2$Reader" "phase" "I") (by decide +kernel)) (u_same (hts (.sameField "CallWays2$Reader" "CallWays2$Instrument" "phase" "I") (by decide +kernel))) rfl dX6_give_57 ?_
      refine lv_aload_n hx hb dX6_give_60 rfl (lv_at hl 0 rfl) ?_
      refine m_get (ci := 4) (v := .ref kn) (C := RX6) (T := TX6) (N := 7) hx hb hts in_X6_give_X6 hown hE hM g_h0 rfl 0 (by decide) (hts (.fieldLink RX6 32 "CallWays2$Reader" "knobs" "[I") (by decide +kernel)) (u_same (hts (.sameField "CallWays2$Reader" "CallWays2$Instrument" "knobs" "[I") (by decide +kernel))) rfl dX6_give_61 ?_
      refine lv_iconst (v := 0) hx hb dX6_give_64 (by decide) ?_
      refine m_iald hx hb hE hM g_kn (by unfold vp_in; decide) dX6_give_65 ?_
      rw [show kf (0 : Int32).toNatClampNeg = kf 0 from rfl]
      refine lv_iadd hx hb dX6_give_66 ?_
      refine lv_istore_n (lv' := [(1, .int (ph + (kf 0))), (0, .ref h0)]) hx hb dX6_give_67 rfl hl (by decide) rfl (fun ls hl => ?_)
      refine lv_aload_n hx hb dX6_give_68 rfl (lv_at hl 1 rfl) ?_
      refine m_get (ci := 4) (v := .ref t) (C := RX6) (T := TX6) (N := 7) hx hb hts in_X6_give_X6 hown hE hM g_h0 rfl 5 (by decide) (hts (.fieldLink RX6 23 "CallWays2$Reader" "table" "LCallWays2$Samples;") (by decide +kernel)) (u_same (hts (.sameField "CallWays2$Reader" "CallWays2$Instrument" "table" "LCallWays2$Samples;") (by decide +kernel))) rfl dX6_give_69 ?_
      refine lv_iload_n hx hb dX6_give_72 rfl (lv_at hl 0 rfl) ?_
      refine m_calli (va_runV (As := [.int (ph + (kf 0))]) (rest := []) ⟨hx, hb, hml, hown, hts⟩ (c_X7_has l E M H.size t v n lane f (ph + kf 0) g_t g_v) (cwV 1 hts gX6_give_X7_has rfl rfl rfl (by decide +kernel) ⟨Nat.le_of_ble_eq_true rfl, Nat.le_of_ble_eq_true rfl⟩) (m_preV hE hM g_t rfl) rfl rfl hl.1 rfl (lv_room (Nat.le_of_ble_eq_true rfl)) dX6_give_73 ⟨Nat.le_of_ble_eq_true rfl, Nat.le_of_ble_eq_true rfl⟩) hM hS hA (fun r2 u H locs hw hM hS => ?_)
      obtain ⟨e_r2, eu⟩ := hw
      rw [eu] at hM
      subst e_r2
      refine lv_if_eq (tgt := 91) hx hb dX6_give_76 (by decide) (fun c_76 => ?_) (fun c_76 => ?_)
      · skip
        rw [bI_eq] at c_76
        refine lv_aload_n hx hb dX6_give_91 rfl (lv_at hl 1 rfl) ?_
        refine lv_bipush (v := -7) hx hb dX6_give_92 (by decide) ?_
        refine m_calld (va_runU (As := [.int (-7)]) (rest := []) ⟨hx, hb, hml, hown, hts⟩ (c_X5_fail l E M H.size 4 (by unfold insK; decide) h0 kn pi on ph 0 le (some t) (-7) g_h0) (va_cwU 1 hts gX6_give_X5_fail_u19X6 rfl rfl rfl rfl (by decide +kernel) ⟨Nat.le_of_ble_eq_true rfl, Nat.le_of_ble_eq_true rfl⟩) (m_preV hE hM g_h0 rfl) rfl rfl hl.1 rfl (lv_room (Nat.le_of_ble_eq_true rfl)) dX6_give_94 ⟨Nat.le_of_ble_eq_true rfl, Nat.le_of_ble_eq_true rfl⟩) hM hS hA (fun r1 M1 H locs hw hM hS => ?_)
        obtain ⟨e_r1, eM1⟩ := hw
        exact m_dret hx hb hr hlocks hM hS (Nat.le_refl _) (Nat.le_refl _) dX6_give_97 (by first | (rw [e_r1, eM1]; show _ = (sRead _ _ _ _).2 ∧ _ = mUp M h0 (mO 4 [_, _, _, _, _, _, .int (sRead _ _ _ _).1]); unfold sRead; rw [if_neg (fun h => by first | exact c_4 h.1 | exact h.2 c_14)]; dsimp only; rw [if_pos c_46, if_neg c_76]; exact ⟨rfl, rfl⟩) | (show _ = (sRead _ _ _ _).2 ∧ _ = mUp M h0 (mO 4 [_, _, _, _, _, _, .int (sRead _ _ _ _).1]); unfold sRead; rw [if_neg (fun h => by first | exact c_4 h.1 | exact h.2 c_14)]; dsimp only; rw [if_pos c_46, if_pos c_76]; exact ⟨rfl, (mUp_id g_h0).symm⟩))
      · skip
        rw [bI_ne] at c_76
        refine lv_aload_n hx hb dX6_give_79 rfl (lv_at hl 1 rfl) ?_
        refine m_get (ci := 4) (v := .ref t) (C := RX6) (T := TX6) (N := 7) hx hb hts in_X6_give_X6 hown hE hM g_h0 rfl 5 (by decide) (hts (.fieldLink RX6 23 "CallWays2$Reader" "table" "LCallWays2$Samples;") (by decide +kernel)) (u_same (hts (.sameField "CallWays2$Reader" "CallWays2$Instrument" "table" "LCallWays2$Samples;") (by decide +kernel))) rfl dX6_give_80 ?_
        refine m_get (ci := 5) (v := .ref v) (C := RX7) (T := TX7) (N := 2) hx hb hts in_X6_give_X7 hown hE hM g_t rfl 1 (by decide) (hts (.fieldLink RX6 40 "CallWays2$Samples" "values" "[D") (by decide +kernel)) (fun _ h9 => h9) rfl dX6_give_83 ?_
        refine lv_iload_n hx hb dX6_give_86 rfl (lv_at hl 0 rfl) ?_
        refine m_dald hx hb hE hM g_v (vp_in_h c_76 hn0) dX6_give_87 ?_
        refine lv_goto (tgt := 97) hx hb dX6_give_88 (by decide) ?_
        exact m_dret hx hb hr hlocks hM hS (Nat.le_refl _) (Nat.le_refl _) dX6_give_97 (by first | (rw [e_r1, ]; show _ = (sRead _ _ _ _).2 ∧ _ = mUp M h0 (mO 4 [_, _, _, _, _, _, .int (sRead _ _ _ _).1]); unfold sRead; rw [if_neg (fun h => by first | exact c_4 h.1 | exact h.2 c_14)]; dsimp only; rw [if_pos c_46, if_neg c_76]; exact ⟨rfl, rfl⟩) | (show _ = (sRead _ _ _ _).2 ∧ _ = mUp M h0 (mO 4 [_, _, _, _, _, _, .int (sRead _ _ _ _).1]); unfold sRead; rw [if_neg (fun h => by first | exact c_4 h.1 | exact h.2 c_14)]; dsimp only; rw [if_pos c_46, if_pos c_76]; exact ⟨rfl, (mUp_id g_h0).symm⟩))
    · skip
      refine lv_aload_n hx hb dX6_give_49 rfl (lv_at hl 0 rfl) ?_
      refine lv_bipush (v := -6) hx hb dX6_give_50 (by decide) ?_
      refine m_calld (va_runU (As := [.int (-6)]) (rest := []) ⟨hx, hb, hml, hown, hts⟩ (c_X5_fail l E M H.size 4 (by unfold insK; decide) h0 kn pi on ph 0 le (some t) (-6) g_h0) (va_cwU 1 hts gX6_give_X5_fail_u19X6 rfl rfl rfl rfl (by decide +kernel) ⟨Nat.le_of_ble_eq_true rfl, Nat.le_of_ble_eq_true rfl⟩) (m_preV hE hM g_h0 rfl) rfl rfl hl.1 rfl (lv_room (Nat.le_of_ble_eq_true rfl)) dX6_give_52 ⟨Nat.le_of_ble_eq_true rfl, Nat.le_of_ble_eq_true rfl⟩) hM hS hA (fun r1 M2 H locs hw hM hS => ?_)
      obtain ⟨e_r1, eM2⟩ := hw
      exact m_dret hx hb hr hlocks hM hS (Nat.le_refl _) (Nat.le_refl _) dX6_give_55 (by rw [e_r1, eM2]; show _ = (sRead _ _ _ _).2 ∧ _ = mUp M h0 (mO 4 [_, _, _, _, _, _, .int (sRead _ _ _ _).1]); unfold sRead; rw [if_neg (fun h => by first | exact c_4 h.1 | exact h.2 c_14)]; dsimp only; rw [if_neg c_46]; exact ⟨rfl, rfl⟩)
  · skip
    refine lv_aload_n hx hb dX6_give_7 rfl (lv_at hl 0 rfl) ?_
    refine m_get (ci := 4) (v := .int ph) (C := RX6) (T := TX6) (N := 7) hx hb hts in_X6_give_X6 hown hE hM g_h0 rfl 3 (by decide) (hts (.fieldLink RX6 15 "CallWays2$Reader" "phase" "I") (by decide +kernel)) (u_same (hts (.sameField "CallWays2$Reader" "CallWays2$Instrument" "phase" "I") (by decide +kernel))) rfl dX6_give_8 ?_
    refine lv_bipush (v := 8) hx hb dX6_give_11 (by decide) ?_
    refine lv_irem hx hb dX6_give_13 (by decide) ?_
    refine lv_if_ge (tgt := 24) hx hb dX6_give_14 (by decide) (fun c_14 => ?_) (fun c_14 => ?_)
    · skip
      refine lv_aload_n hx hb dX6_give_24 rfl (lv_at hl 0 rfl) ?_
      refine m_get (ci := 4) (v := .ref t) (C := RX6) (T := TX6) (N := 7) hx hb hts in_X6_give_X6 hown hE hM g_h0 rfl 5 (by decide) (hts (.fieldLink RX6 23 "CallWays2$Reader" "table" "LCallWays2$Samples;") (by decide +kernel)) (u_same (hts (.sameField "CallWays2$Reader" "CallWays2$Instrument" "table" "LCallWays2$Samples;") (by decide +kernel))) rfl dX6_give_25 ?_
      refine lv_ifnonnull (tgt := 38) hx hb dX6_give_28 (by decide) ?_
      refine lv_aload_n hx hb dX6_give_38 rfl (lv_at hl 0 rfl) ?_
      refine m_get (ci := 4) (v := .ref t) (C := RX6) (T := TX6) (N := 7) hx hb hts in_X6_give_X6 hown hE hM g_h0 rfl 5 (by decide) (hts (.fieldLink RX6 23 "CallWays2$Reader" "table" "LCallWays2$Samples;") (by decide +kernel)) (u_same (hts (.sameField "CallWays2$Reader" "CallWays2$Instrument" "table" "LCallWays2$Samples;") (by decide +kernel))) rfl dX6_give_39 ?_
      refine m_get (ci := 5) (v := .int lane) (C := RX7) (T := TX7) (N := 2) hx hb hts in_X6_give_X7 hown hE hM g_t rfl 0 (by decide) (hts (.fieldLink RX6 27 "CallWays2$Samples" "lane" "I") (by decide +kernel)) (fun _ h9 => h9) rfl dX6_give_42 ?_
      refine lv_iconst (v := 1) hx hb dX6_give_45 (by decide) ?_
      refine lv_icmp_eq (tgt := 56) hx hb dX6_give_46 (by decide) (fun c_46 => ?_) (fun c_46 => ?_)
      · skip
        refine lv_aload_n hx hb dX6_give_56 rfl (lv_at hl 0 rfl) ?_
        refine m_get (ci := 4) (v := .int ph) (C := RX6) (T := TX6) (N := 7) hx hb hts in_X6_give_X6 hown hE hM g_h0 rfl 3 (by decide) (hts (.fieldLink RX6 15 "CallWays2$Reader" "phase" "I") (by decide +kernel)) (u_same (hts (.sameField "CallWays2$Reader" "CallWays2$Instrument" "phase" "I") (by decide +kernel))) rfl dX6_give_57 ?_
        refine lv_aload_n hx hb dX6_give_60 rfl (lv_at hl 0 rfl) ?_
        refine m_get (ci := 4) (v := .ref kn) (C := RX6) (T := TX6) (N := 7) hx hb hts in_X6_give_X6 hown hE hM g_h0 rfl 0 (by decide) (hts (.fieldLink RX6 32 "CallWays2$Reader" "knobs" "[I") (by decide +kernel)) (u_same (hts (.sameField "CallWays2$Reader" "CallWays2$Instrument" "knobs" "[I") (by decide +kernel))) rfl dX6_give_61 ?_
        refine lv_iconst (v := 0) hx hb dX6_give_64 (by decide) ?_
        refine m_iald hx hb hE hM g_kn (by unfold vp_in; decide) dX6_give_65 ?_
        rw [show kf (0 : Int32).toNatClampNeg = kf 0 from rfl]
        refine lv_iadd hx hb dX6_give_66 ?_
        refine lv_istore_n (lv' := [(1, .int (ph + (kf 0))), (0, .ref h0)]) hx hb dX6_give_67 rfl hl (by decide) rfl (fun ls hl => ?_)
        refine lv_aload_n hx hb dX6_give_68 rfl (lv_at hl 1 rfl) ?_
        refine m_get (ci := 4) (v := .ref t) (C := RX6) (T := TX6) (N := 7) hx hb hts in_X6_give_X6 hown hE hM g_h0 rfl 5 (by decide) (hts (.fieldLink RX6 23 "CallWays2$Reader" "table" "LCallWays2$Samples;") (by decide +kernel)) (u_same (hts (.sameField "CallWays2$Reader" "CallWays2$Instrument" "table" "LCallWays2$Samples;") (by decide +kernel))) rfl dX6_give_69 ?_
        refine lv_iload_n hx hb dX6_give_72 rfl (lv_at hl 0 rfl) ?_
        refine m_calli (va_runV (As := [.int (ph + (kf 0))]) (rest := []) ⟨hx, hb, hml, hown, hts⟩ (c_X7_has l E M H.size t v n lane f (ph + kf 0) g_t g_v) (cwV 1 hts gX6_give_X7_has rfl rfl rfl (by decide +kernel) ⟨Nat.le_of_ble_eq_true rfl, Nat.le_of_ble_eq_true rfl⟩) (m_preV hE hM g_t rfl) rfl rfl hl.1 rfl (lv_room (Nat.le_of_ble_eq_true rfl)) dX6_give_73 ⟨Nat.le_of_ble_eq_true rfl, Nat.le_of_ble_eq_true rfl⟩) hM hS hA (fun r2 u H locs hw hM hS => ?_)
        obtain ⟨e_r2, eu⟩ := hw
        rw [eu] at hM
        subst e_r2
        refine lv_if_eq (tgt := 91) hx hb dX6_give_76 (by decide) (fun c_76 => ?_) (fun c_76 => ?_)
        · skip
          rw [bI_eq] at c_76
          refine lv_aload_n hx hb dX6_give_91 rfl (lv_at hl 1 rfl) ?_
          refine lv_bipush (v := -7) hx hb dX6_give_92 (by decide) ?_
          refine m_calld (va_runU (As := [.int (-7)]) (rest := []) ⟨hx, hb, hml, hown, hts⟩ (c_X5_fail l E M H.size 4 (by unfold insK; decide) h0 kn pi on ph 0 le (some t) (-7) g_h0) (va_cwU 1 hts gX6_give_X5_fail_u19X6 rfl rfl rfl rfl (by decide +kernel) ⟨Nat.le_of_ble_eq_true rfl, Nat.le_of_ble_eq_true rfl⟩) (m_preV hE hM g_h0 rfl) rfl rfl hl.1 rfl (lv_room (Nat.le_of_ble_eq_true rfl)) dX6_give_94 ⟨Nat.le_of_ble_eq_true rfl, Nat.le_of_ble_eq_true rfl⟩) hM hS hA (fun r1 M3 H locs hw hM hS => ?_)
          obtain ⟨e_r1, eM3⟩ := hw
          exact m_dret hx hb hr hlocks hM hS (Nat.le_refl _) (Nat.le_refl _) dX6_give_97 (by first | (rw [e_r1, eM3]; show _ = (sRead _ _ _ _).2 ∧ _ = mUp M h0 (mO 4 [_, _, _, _, _, _, .int (sRead _ _ _ _).1]); unfold sRead; rw [if_neg (fun h => by first | exact c_4 h.1 | exact h.2 c_14)]; dsimp only; rw [if_pos c_46, if_neg c_76]; exact ⟨rfl, rfl⟩) | (show _ = (sRead _ _ _ _).2 ∧ _ = mUp M h0 (mO 4 [_, _, _, _, _, _, .int (sRead _ _ _ _).1]); unfold sRead; rw [if_neg (fun h => by first | exact c_4 h.1 | exact h.2 c_14)]; dsimp only; rw [if_pos c_46, if_pos c_76]; exact ⟨rfl, (mUp_id g_h0).symm⟩))
        · skip
          rw [bI_ne] at c_76
          refine lv_aload_n hx hb dX6_give_79 rfl (lv_at hl 1 rfl) ?_
          refine m_get (ci := 4) (v := .ref t) (C := RX6) (T := TX6) (N := 7) hx hb hts in_X6_give_X6 hown hE hM g_h0 rfl 5 (by decide) (hts (.fieldLink RX6 23 "CallWays2$Reader" "table" "LCallWays2$Samples;") (by decide +kernel)) (u_same (hts (.sameField "CallWays2$Reader" "CallWays2$Instrument" "table" "LCallWays2$Samples;") (by decide +kernel))) rfl dX6_give_80 ?_
          refine m_get (ci := 5) (v := .ref v) (C := RX7) (T := TX7) (N := 2) hx hb hts in_X6_give_X7 hown hE hM g_t rfl 1 (by decide) (hts (.fieldLink RX6 40 "CallWays2$Samples" "values" "[D") (by decide +kernel)) (fun _ h9 => h9) rfl dX6_give_83 ?_
          refine lv_iload_n hx hb dX6_give_86 rfl (lv_at hl 0 rfl) ?_
          refine m_dald hx hb hE hM g_v (vp_in_h c_76 hn0) dX6_give_87 ?_
          refine lv_goto (tgt := 97) hx hb dX6_give_88 (by decide) ?_
          exact m_dret hx hb hr hlocks hM hS (Nat.le_refl _) (Nat.le_refl _) dX6_give_97 (by first | (rw [e_r1, ]; show _ = (sRead _ _ _ _).2 ∧ _ = mUp M h0 (mO 4 [_, _, _, _, _, _, .int (sRead _ _ _ _).1]); unfold sRead; rw [if_neg (fun h => by first | exact c_4 h.1 | exact h.2 c_14)]; dsimp only; rw [if_pos c_46, if_neg c_76]; exact ⟨rfl, rfl⟩) | (show _ = (sRead _ _ _ _).2 ∧ _ = mUp M h0 (mO 4 [_, _, _, _, _, _, .int (sRead _ _ _ _).1]); unfold sRead; rw [if_neg (fun h => by first | exact c_4 h.1 | exact h.2 c_14)]; dsimp only; rw [if_pos c_46, if_pos c_76]; exact ⟨rfl, (mUp_id g_h0).symm⟩))
      · skip
        refine lv_aload_n hx hb dX6_give_49 rfl (lv_at hl 0 rfl) ?_
        refine lv_bipush (v := -6) hx hb dX6_give_50 (by decide) ?_
        refine m_calld (va_runU (As := [.int (-6)]) (rest := []) ⟨hx, hb, hml, hown, hts⟩ (c_X5_fail l E M H.size 4 (by unfold insK; decide) h0 kn pi on ph 0 le (some t) (-6) g_h0) (va_cwU 1 hts gX6_give_X5_fail_u19X6 rfl rfl rfl rfl (by decide +kernel) ⟨Nat.le_of_ble_eq_true rfl, Nat.le_of_ble_eq_true rfl⟩) (m_preV hE hM g_h0 rfl) rfl rfl hl.1 rfl (lv_room (Nat.le_of_ble_eq_true rfl)) dX6_give_52 ⟨Nat.le_of_ble_eq_true rfl, Nat.le_of_ble_eq_true rfl⟩) hM hS hA (fun r1 M4 H locs hw hM hS => ?_)
        obtain ⟨e_r1, eM4⟩ := hw
        exact m_dret hx hb hr hlocks hM hS (Nat.le_refl _) (Nat.le_refl _) dX6_give_55 (by rw [e_r1, eM4]; show _ = (sRead _ _ _ _).2 ∧ _ = mUp M h0 (mO 4 [_, _, _, _, _, _, .int (sRead _ _ _ _).1]); unfold sRead; rw [if_neg (fun h => by first | exact c_4 h.1 | exact h.2 c_14)]; dsimp only; rw [if_neg c_46]; exact ⟨rfl, rfl⟩)
    · skip
      refine lv_aload_n hx hb dX6_give_17 rfl (lv_at hl 0 rfl) ?_
      refine lv_bipush (v := -8) hx hb dX6_give_18 (by decide) ?_
      refine m_calld (va_runU (As := [.int (-8)]) (rest := []) ⟨hx, hb, hml, hown, hts⟩ (c_X5_fail l E M H.size 4 (by unfold insK; decide) h0 kn pi on ph 0 le (some t) (-8) g_h0) (va_cwU 1 hts gX6_give_X5_fail_u19X6 rfl rfl rfl rfl (by decide +kernel) ⟨Nat.le_of_ble_eq_true rfl, Nat.le_of_ble_eq_true rfl⟩) (m_preV hE hM g_h0 rfl) rfl rfl hl.1 rfl (lv_room (Nat.le_of_ble_eq_true rfl)) dX6_give_20 ⟨Nat.le_of_ble_eq_true rfl, Nat.le_of_ble_eq_true rfl⟩) hM hS hA (fun r1 M5 H locs hw hM hS => ?_)
      obtain ⟨e_r1, eM5⟩ := hw
      exact m_dret hx hb hr hlocks hM hS (Nat.le_refl _) (Nat.le_refl _) dX6_give_23 (by rw [e_r1, eM5]; show _ = (sRead _ _ _ _).2 ∧ _ = mUp M h0 (mO 4 [_, _, _, _, _, _, .int (sRead _ _ _ _).1]); unfold sRead; rw [if_pos ⟨c_4, c_14⟩]; exact ⟨rfl, rfl⟩)
