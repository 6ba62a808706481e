theorem in_cnt {i : Int32} {n N : Nat} (h : n ≤ N) (hN : N < 2 ^ 31) (h1 : ¬ i < 0) (h2 : ¬ nI n ≤ i) : vp_in i N := by
  obtain ⟨j, hj, rfl⟩ := nI_of h1
  rw [nI_leI (by omega) hj] at h2
  exact vp_in_nI (by omega) hN
theorem na1 {p q : Prop} (h : ¬ p) : ¬ (p ∧ q) := fun z => h z.1
theorem na2 {p q : Prop} (h : ¬ q) : ¬ (p ∧ q) := fun z => h z.2
theorem in_lit {i : Int32} {N : Nat} (hN : N < 2 ^ 31) (h1 : ¬ i < 0) (h2 : ¬ nI N ≤ i) : vp_in i N := in_cnt (Nat.le_refl N) hN h1 h2
theorem in_X9_instrumentAt_X9 : ∀ w ∈ wsX90, w ∈ wsX9_instrumentAt := by decide +kernel
set_option maxHeartbeats 4000000 in
set_option maxRecDepth 100000 in
theorem c_X9_instrumentAt (l : Launch) (E : mEnv) (M : mMem) (sz : Nat) (x a1 a2 a3 a4 nn nf : Nat) (bd st c2 c3 c4 : Int32) (fi fb ff : Nat → Option Nat) (wt : Nat → UInt64) (i : Int32) (hnn : nn ≤ 12) (g_x : M x = some (mO 7 [.ref a1, .ref a2, .ref a3, .ref a4, .int (nI nn), .int (nI nf), .int bd, .int st, .int c2, .int c3, .int c4])) (g_a1 : M a1 = some (mQ E 4 12 fi))  : Met l yX9_instrumentAt wsX9_instrumentAt ({ frames := 0, cells := 0, slots := 0, locals := 0 }) (mPre E M sz [.ref x, .int i]) (mQq E M sz (fun r u => r = (if ¬ i < 0 ∧ ¬ nI nn ≤ i then fi i.toNatClampNeg else none) ∧ u = M)) (0) (0) (mA M sz) := by
  refine m_met [.ref x, .int i] (by decide) rfl (Nat.le_of_ble_eq_true rfl) ?_
  intro p e s m below meth c ls H eH hx hb hr hts hown hlocks hnm hml hsz hE hM hS hA hl
  have hl : lv_has ls 2 [(0, .ref x), (1, .int i)] := hl
  refine lv_iload_n hx hb dX9_instrumentAt_0 rfl (lv_at hl 1 rfl) ?_
  refine lv_if_lt (tgt := 21) hx hb dX9_instrumentAt_1 (by decide) (fun c_1 => ?_) (fun c_1 => ?_)
  · skip
    refine lv_null hx hb dX9_instrumentAt_21 ?_
    exact m_qret none hx hb hr hlocks hM hS (Nat.le_refl _) (Nat.le_refl _) dX9_instrumentAt_22 (by first | exact ⟨(if_neg (na1 (not_not_intro c_1))).symm, rfl⟩ | exact ⟨(if_pos ⟨c_1, c_9⟩).symm, rfl⟩ | exact ⟨(if_neg (na2 (not_not_intro c_9))).symm, rfl⟩)
  · skip
    refine lv_iload_n hx hb dX9_instrumentAt_4 rfl (lv_at hl 1 rfl) ?_
    refine lv_aload_n hx hb dX9_instrumentAt_5 rfl (lv_at hl 0 rfl) ?_
    refine m_get (ci := 7) (v := .int (nI nn)) (C := RX9) (T := TX9) (N := 11) hx hb hts in_X9_instrumentAt_X9 hown hE hM g_x rfl 4 (by decide) (hts (.fieldLink RX9 35 "CallWays2" "instrumentCount" "I") (by decide +kernel)) (fun _ h9 => h9) rfl dX9_instrumentAt_6 ?_
    refine lv_icmp_ge (tgt := 21) hx hb dX9_instrumentAt_9 (by decide) (fun c_9 => ?_) (fun c_9 => ?_)
    · skip
      refine lv_null hx hb dX9_instrumentAt_21 ?_
      exact m_qret none hx hb hr hlocks hM hS (Nat.le_refl _) (Nat.le_refl _) dX9_instrumentAt_22 (by first | exact ⟨(if_neg (na1 (not_not_intro c_1))).symm, rfl⟩ | exact ⟨(if_pos ⟨c_1, c_9⟩).symm, rfl⟩ | exact ⟨(if_neg (na2 (not_not_intro c_9))).symm, rfl⟩)
    · skip
      refine lv_aload_n hx hb dX9_instrumentAt_12 rfl (lv_at hl 0 rfl) ?_
      refine m_get (ci := 7) (v := .ref a1) (C := RX9) (T := TX9) (N := 11) hx hb hts in_X9_instrumentAt_X9 hown hE hM g_x rfl 0 (by decide) (hts (.fieldLink RX9 11 "CallWays2" "instruments" "[LCallWays2$Instrument;") (by decide +kernel)) (fun _ h9 => h9) rfl dX9_instrumentAt_13 ?_
      refine lv_iload_n hx hb dX9_instrumentAt_16 rfl (lv_at hl 1 rfl) ?_
      refine m_qald (C := "CallWays2$Instrument") (r := fi i.toNatClampNeg) hx hb hE hM 4 g_a1 rfl (in_cnt hnn (by decide) c_1 c_9) rfl dX9_instrumentAt_17 ?_
      refine lv_goto (tgt := 22) hx hb dX9_instrumentAt_18 (by decide) ?_
      exact m_qret (fi i.toNatClampNeg) hx hb hr hlocks hM hS (Nat.le_refl _) (Nat.le_refl _) dX9_instrumentAt_22 (by first | exact ⟨(if_neg (na1 (not_not_intro c_1))).symm, rfl⟩ | exact ⟨(if_pos ⟨c_1, c_9⟩).symm, rfl⟩ | exact ⟨(if_neg (na2 (not_not_intro c_9))).symm, rfl⟩)
theorem in_X9_functionAt_X9 : ∀ w ∈ wsX90, w ∈ wsX9_functionAt := by decide +kernel
set_option maxHeartbeats 4000000 in
set_option maxRecDepth 100000 in
theorem c_X9_functionAt (l : Launch) (E : mEnv) (M : mMem) (sz : Nat) (x a1 a2 a3 a4 nn nf : Nat) (bd st c2 c3 c4 : Int32) (fi fb ff : Nat → Option Nat) (wt : Nat → UInt64) (i : Int32) (hnf : nf ≤ 8) (g_x : M x = some (mO 7 [.ref a1, .ref a2, .ref a3, .ref a4, .int (nI nn), .int (nI nf), .int bd, .int st, .int c2, .int c3, .int c4])) (g_a3 : M a3 = some (mQ E 6 8 ff))  : Met l yX9_functionAt wsX9_functionAt ({ frames := 0, cells := 0, slots := 0, locals := 0 }) (mPre E M sz [.ref x, .int i]) (mQq E M sz (fun r u => r = (if ¬ i < 0 ∧ ¬ nI nf ≤ i then ff i.toNatClampNeg else none) ∧ u = M)) (0) (0) (mA M sz) := by
  refine m_met [.ref x, .int i] (by decide) rfl (Nat.le_of_ble_eq_true rfl) ?_
  intro p e s m below meth c ls H eH hx hb hr hts hown hlocks hnm hml hsz hE hM hS hA hl
  have hl : lv_has ls 2 [(0, .ref x), (1, .int i)] := hl
  refine lv_iload_n hx hb dX9_functionAt_0 rfl (lv_at hl 1 rfl) ?_
  refine lv_if_lt (tgt := 21) hx hb dX9_functionAt_1 (by decide) (fun c_1 => ?_) (fun c_1 => ?_)
  · skip
    refine lv_null hx hb dX9_functionAt_21 ?_
    exact m_qret none hx hb hr hlocks hM hS (Nat.le_refl _) (Nat.le_refl _) dX9_functionAt_22 (by first | exact ⟨(if_neg (na1 (not_not_intro c_1))).symm, rfl⟩ | exact ⟨(if_pos ⟨c_1, c_9⟩).symm, rfl⟩ | exact ⟨(if_neg (na2 (not_not_intro c_9))).symm, rfl⟩)
  · skip
    refine lv_iload_n hx hb dX9_functionAt_4 rfl (lv_at hl 1 rfl) ?_
    refine lv_aload_n hx hb dX9_functionAt_5 rfl (lv_at hl 0 rfl) ?_
    refine m_get (ci := 7) (v := .int (nI nf)) (C := RX9) (T := TX9) (N := 11) hx hb hts in_X9_functionAt_X9 hown hE hM g_x rfl 5 (by decide) (hts (.fieldLink RX9 113 "CallWays2" "functionCount" "I") (by decide +kernel)) (fun _ h9 => h9) rfl dX9_functionAt_6 ?_
    refine lv_icmp_ge (tgt := 21) hx hb dX9_functionAt_9 (by decide) (fun c_9 => ?_) (fun c_9 => ?_)
    · skip
      refine lv_null hx hb dX9_functionAt_21 ?_
      exact m_qret none hx hb hr hlocks hM hS (Nat.le_refl _) (Nat.le_refl _) dX9_functionAt_22 (by first | exact ⟨(if_neg (na1 (not_not_intro c_1))).symm, rfl⟩ | exact ⟨(if_pos ⟨c_1, c_9⟩).symm, rfl⟩ | exact ⟨(if_neg (na2 (not_not_intro c_9))).symm, rfl⟩)
    · skip
      refine lv_aload_n hx hb dX9_functionAt_12 rfl (lv_at hl 0 rfl) ?_
      refine m_get (ci := 7) (v := .ref a3) (C := RX9) (T := TX9) (N := 11) hx hb hts in_X9_functionAt_X9 hown hE hM g_x rfl 2 (by decide) (hts (.fieldLink RX9 23 "CallWays2" "functions" "[LCallWays2$Function;") (by decide +kernel)) (fun _ h9 => h9) rfl dX9_functionAt_13 ?_
      refine lv_iload_n hx hb dX9_functionAt_16 rfl (lv_at hl 1 rfl) ?_
      refine m_qald (C := "CallWays2$Function") (r := ff i.toNatClampNeg) hx hb hE hM 6 g_a3 rfl (in_cnt hnf (by decide) c_1 c_9) rfl dX9_functionAt_17 ?_
      refine lv_goto (tgt := 22) hx hb dX9_functionAt_18 (by decide) ?_
      exact m_qret (ff i.toNatClampNeg) hx hb hr hlocks hM hS (Nat.le_refl _) (Nat.le_refl _) dX9_functionAt_22 (by first | exact ⟨(if_neg (na1 (not_not_intro c_1))).symm, rfl⟩ | exact ⟨(if_pos ⟨c_1, c_9⟩).symm, rfl⟩ | exact ⟨(if_neg (na2 (not_not_intro c_9))).symm, rfl⟩)
theorem in_X9_heldBy_X9 : ∀ w ∈ wsX90, w ∈ wsX9_heldBy := by decide +kernel
set_option maxHeartbeats 4000000 in
set_option maxRecDepth 100000 in
theorem c_X9_heldBy (l : Launch) (E : mEnv) (M : mMem) (sz : Nat) (x a1 a2 a3 a4 nn nf : Nat) (bd st c2 c3 c4 : Int32) (fi fb ff : Nat → Option Nat) (wt : Nat → UInt64) (b : Int32) (g_x : M x = some (mO 7 [.ref a1, .ref a2, .ref a3, .ref a4, .int (nI nn), .int (nI nf), .int bd, .int st, .int c2, .int c3, .int c4])) (g_a2 : M a2 = some (mQ E 5 10 fb))  : Met l yX9_heldBy wsX9_heldBy ({ frames := 1, cells := 0, slots := 0, locals := 20 }) (mPre E M sz [.ref x, .int b]) (mQq E M sz (fun r u => r = (if ¬ b < 0 ∧ ¬ 10 ≤ b then fb b.toNatClampNeg else none) ∧ u = M)) (0) (0) (mA M sz) := by
  refine m_met [.ref x, .int b] (by decide) rfl (Nat.le_of_ble_eq_true rfl) ?_
  intro p e s m below meth c ls H eH hx hb hr hts hown hlocks hnm hml hsz hE hM hS hA hl
  have hl : lv_has ls 2 [(0, .ref x), (1, .int b)] := hl
  refine lv_iload_n hx hb dX9_heldBy_0 rfl (lv_at hl 1 rfl) ?_
  refine m_calli (va_runS (As := [.int b]) (rest := []) ⟨hx, hb, hml, hown, hts⟩ (c_X9_isBlock l E M H.size b) (va_cwS 1 hts gX9_heldBy_X9_isBlock rfl rfl rfl (by decide +kernel) ⟨Nat.le_of_ble_eq_true rfl, Nat.le_of_ble_eq_true rfl⟩) (m_preS hE hM) rfl rfl hl.1 rfl (lv_room (Nat.le_of_ble_eq_true rfl)) dX9_heldBy_1 ⟨Nat.le_of_ble_eq_true rfl, Nat.le_of_ble_eq_true rfl⟩) hM hS hA (fun r1 u H locs hw hM hS => ?_)
  obtain ⟨e_r1, eu⟩ := hw
  rw [eu] at hM
  subst e_r1
  refine lv_if_eq (tgt := 16) hx hb dX9_heldBy_4 (by decide) (fun c_4 => ?_) (fun c_4 => ?_)
  · skip
    rw [bI_eq] at c_4
    refine lv_null hx hb dX9_heldBy_16 ?_
    exact m_qret none hx hb hr hlocks hM hS (Nat.le_refl _) (Nat.le_refl _) dX9_heldBy_17 (by first | exact ⟨(if_pos c_4).symm, rfl⟩ | exact ⟨(if_neg c_4).symm, rfl⟩)
  · skip
    rw [bI_ne] at c_4
    refine lv_aload_n hx hb dX9_heldBy_7 rfl (lv_at hl 0 rfl) ?_
    refine m_get (ci := 7) (v := .ref a2) (C := RX9) (T := TX9) (N := 11) hx hb hts in_X9_heldBy_X9 hown hE hM g_x rfl 1 (by decide) (hts (.fieldLink RX9 17 "CallWays2" "blocks" "[LCallWays2$Samples;") (by decide +kernel)) (fun _ h9 => h9) rfl dX9_heldBy_8 ?_
    refine lv_iload_n hx hb dX9_heldBy_11 rfl (lv_at hl 1 rfl) ?_
    refine m_qald (C := "CallWays2$Samples") (r := fb b.toNatClampNeg) hx hb hE hM 5 g_a2 rfl (in_lit (N := 10) (by decide) c_4.1 c_4.2) rfl dX9_heldBy_12 ?_
    refine lv_goto (tgt := 17) hx hb dX9_heldBy_13 (by decide) ?_
    exact m_qret (fb b.toNatClampNeg) hx hb hr hlocks hM hS (Nat.le_refl _) (Nat.le_refl _) dX9_heldBy_17 (by first | exact ⟨(if_pos c_4).symm, rfl⟩ | exact ⟨(if_neg c_4).symm, rfl⟩)
def sPlace (held : Option Nat) (n : Nat) (b i : Int32) : Int32 := if ¬ b < 0 ∧ ¬ 10 ≤ b then (if held = none then -5 else if ¬ i < 0 ∧ ¬ nI n ≤ i then 0 else -7) else -1
set_option maxHeartbeats 4000000 in
set_option maxRecDepth 100000 in
theorem c_X9_place_b (l : Launch) (E : mEnv) (M : mMem) (sz : Nat) (x a1 a2 a3 a4 nn nf : Nat) (bd st c2 c3 c4 : Int32) (fi fb ff : Nat → Option Nat) (wt : Nat → UInt64) (b i : Int32) (hb0 : ¬ (¬ b < 0 ∧ ¬ 10 ≤ b)) (g_x : M x = some (mO 7 [.ref a1, .ref a2, .ref a3, .ref a4, .int (nI nn), .int (nI nf), .int bd, .int st, .int c2, .int c3, .int c4])) (g_a2 : M a2 = some (mQ E 5 10 fb))  : Met l yX9_againstPlace wsX9_againstPlace ({ frames := 1, cells := 0, slots := 0, locals := 20 }) (mPre E M sz [.ref x, .int b, .int i]) (mQi E M sz (fun r u => r = -1 ∧ u = M)) (0) (0) (mA M sz) := by
  refine m_met [.ref x, .int b, .int i] (by decide) rfl (Nat.le_of_ble_eq_true rfl) ?_
  intro p e s m below meth c ls H eH hx hb hr hts hown hlocks hnm hml hsz hE hM hS hA hl
  have hl : lv_has ls 4 [(0, .ref x), (1, .int b), (2, .int i)] := hl
  refine lv_iload_n hx hb dX9_againstPlace_0 rfl (lv_at hl 1 rfl) ?_
  refine m_calli (va_runS (As := [.int b]) (rest := []) ⟨hx, hb, hml, hown, hts⟩ (c_X9_isBlock l E M H.size b) (va_cwS 1 hts gX9_againstPlace_X9_isBlock rfl rfl rfl (by decide +kernel) ⟨Nat.le_of_ble_eq_true rfl, Nat.le_of_ble_eq_true rfl⟩) (m_preS hE hM) rfl rfl hl.1 rfl (lv_room (Nat.le_of_ble_eq_true rfl)) dX9_againstPlace_1 ⟨Nat.le_of_ble_eq_true rfl, Nat.le_of_ble_eq_true rfl⟩) hM hS hA (fun r1 u H locs hw hM hS => ?_)
  obtain ⟨e_r1, eu⟩ := hw
  rw [eu] at hM
  subst e_r1
  refine lv_if_ne (tgt := 9) hx hb dX9_againstPlace_4 (by decide) (fun h9 => False.elim (by revert h9; exact (fun h => hb0 (bI_ne.mp h)))) (fun _ => ?_)
  refine lv_iconst (v := -1) hx hb dX9_againstPlace_7 (by decide) ?_
  exact m_iret hx hb hr hlocks hM hS (Nat.le_refl _) (Nat.le_refl _) dX9_againstPlace_8 (by exact ⟨rfl, rfl⟩)
theorem in_X9_againstPlace_X9 : ∀ w ∈ wsX90, w ∈ wsX9_againstPlace := by decide +kernel
set_option maxHeartbeats 4000000 in
set_option maxRecDepth 100000 in
theorem c_X9_place_n (l : Launch) (E : mEnv) (M : mMem) (sz : Nat) (x a1 a2 a3 a4 nn nf : Nat) (bd st c2 c3 c4 : Int32) (fi fb ff : Nat → Option Nat) (wt : Nat → UInt64) (b i : Int32) (hb0 : ¬ b < 0 ∧ ¬ 10 ≤ b) (hq : fb b.toNatClampNeg = none) (g_x : M x = some (mO 7 [.ref a1, .ref a2, .ref a3, .ref a4, .int (nI nn), .int (nI nf), .int bd, .int st, .int c2, .int c3, .int c4])) (g_a2 : M a2 = some (mQ E 5 10 fb))  : Met l yX9_againstPlace wsX9_againstPlace ({ frames := 1, cells := 0, slots := 0, locals := 20 }) (mPre E M sz [.ref x, .int b, .int i]) (mQi E M sz (fun r u => r = -5 ∧ u = M)) (0) (0) (mA M sz) := by
  refine m_met [.ref x, .int b, .int i] (by decide) rfl (Nat.le_of_ble_eq_true rfl) ?_
  intro p e s m below meth c ls H eH hx hb hr hts hown hlocks hnm hml hsz hE hM hS hA hl
  have hl : lv_has ls 4 [(0, .ref x), (1, .int b), (2, .int i)] := hl
  refine lv_iload_n hx hb dX9_againstPlace_0 rfl (lv_at hl 1 rfl) ?_
  refine m_calli (va_runS (As := [.int b]) (rest := []) ⟨hx, hb, hml, hown, hts⟩ (c_X9_isBlock l E M H.size b) (va_cwS 1 hts gX9_againstPlace_X9_isBlock rfl rfl rfl (by decide +kernel) ⟨Nat.le_of_ble_eq_true rfl, Nat.le_of_ble_eq_true rfl⟩) (m_preS hE hM) rfl rfl hl.1 rfl (lv_room (Nat.le_of_ble_eq_true rfl)) dX9_againstPlace_1 ⟨Nat.le_of_ble_eq_true rfl, Nat.le_of_ble_eq_true rfl⟩) hM hS hA (fun r1 u H locs hw hM hS => ?_)
  obtain ⟨e_r1, eu⟩ := hw
  rw [eu] at hM
  subst e_r1
  refine lv_if_ne (tgt := 9) hx hb dX9_againstPlace_4 (by decide) (fun _ => ?_) (fun h9 => False.elim (by revert h9; exact (fun h => bI_ne.mpr hb0 h)))
  refine lv_aload_n hx hb dX9_againstPlace_9 rfl (lv_at hl 0 rfl) ?_
  refine m_get (ci := 7) (v := .ref a2) (C := RX9) (T := TX9) (N := 11) hx hb hts in_X9_againstPlace_X9 hown hE hM g_x rfl 1 (by decide) (hts (.fieldLink RX9 17 "CallWays2" "blocks" "[LCallWays2$Samples;") (by decide +kernel)) (fun _ h9 => h9) rfl dX9_againstPlace_10 ?_
  refine lv_iload_n hx hb dX9_againstPlace_13 rfl (lv_at hl 1 rfl) ?_
  refine m_qald (C := "CallWays2$Samples") (r := none) hx hb hE hM 5 g_a2 rfl (in_lit (N := 10) (by decide) hb0.1 hb0.2) hq dX9_againstPlace_14 ?_
  show W _ _ _ _ _ _ _ _ _ _ _ _ _ _ _ (F0 m 15 ls [.null])
  refine lv_astore_nN (lv' := [(3, .null), (0, .ref x), (1, .int b), (2, .int i)]) hx hb dX9_againstPlace_15 rfl hl (by decide) rfl (fun ls hl => ?_)
  refine lv_aload_nN hx hb dX9_againstPlace_16 rfl (lv_at hl 0 rfl) ?_
  refine lv_ifnonnullN hx hb dX9_againstPlace_17 ?_
  refine lv_bipush (v := -5) hx hb dX9_againstPlace_20 (by decide) ?_
  exact m_iret hx hb hr hlocks hM hS (Nat.le_refl _) (Nat.le_refl _) dX9_againstPlace_22 (by exact ⟨rfl, rfl⟩)
set_option maxHeartbeats 4000000 in
set_option maxRecDepth 100000 in
theorem c_X9_place_s (l : Launch) (E : mEnv) (M : mMem) (sz : Nat) (x a1 a2 a3 a4 nn nf : Nat) (bd st c2 c3 c4 : Int32) (fi fb ff : Nat → Option Nat) (wt : Nat → UInt64) (h0 v n : Nat) (lane : Int32) (f : Nat → UInt64) (b i : Int32) (hb0 : ¬ b < 0 ∧ ¬ 10 ≤ b) (hq : fb b.toNatClampNeg = some h0) (g_x : M x = some (mO 7 [.ref a1, .ref a2, .ref a3, .ref a4, .int (nI nn), .int (nI nf), .int bd, .int st, .int c2, .int c3, .int c4])) (g_a2 : M a2 = some (mQ E 5 10 fb)) (g_h0 : M h0 = some (mO 5 [.int lane, .ref v])) (g_v : M v = some (mDb E n f))  : Met l yX9_againstPlace wsX9_againstPlace ({ frames := 1, cells := 0, slots := 0, locals := 21 }) (mPre E M sz [.ref x, .int b, .int i]) (mQi E M sz (fun r u => r = (if ¬ i < 0 ∧ ¬ nI n ≤ i then 0 else -7) ∧ u = M)) (0) (0) (mA M sz) := by
  refine m_met [.ref x, .int b, .int i] (by decide) rfl (Nat.le_of_ble_eq_true rfl) ?_
  intro p e s m below meth c ls H eH hx hb hr hts hown hlocks hnm hml hsz hE hM hS hA hl
  have hl : lv_has ls 4 [(0, .ref x), (1, .int b), (2, .int i)] := hl
  refine lv_iload_n hx hb dX9_againstPlace_0 rfl (lv_at hl 1 rfl) ?_
  refine m_calli (va_runS (As := [.int b]) (rest := []) ⟨hx, hb, hml, hown, hts⟩ (c_X9_isBlock l E M H.size b) (va_cwS 1 hts gX9_againstPlace_X9_isBlock rfl rfl rfl (by decide +kernel) ⟨Nat.le_of_ble_eq_true rfl, Nat.le_of_ble_eq_true rfl⟩) (m_preS hE hM) rfl rfl hl.1 rfl (lv_room (Nat.le_of_ble_eq_true rfl)) dX9_againstPlace_1 ⟨Nat.le_of_ble_eq_true rfl, Nat.le_of_ble_eq_true rfl⟩) hM hS hA (fun r1 u H locs hw hM hS => ?_)
  obtain ⟨e_r1, eu⟩ := hw
  rw [eu] at hM
  subst e_r1
  refine lv_if_ne (tgt := 9) hx hb dX9_againstPlace_4 (by decide) (fun _ => ?_) (fun h9 => False.elim (by revert h9; exact (fun h => bI_ne.mpr hb0 h)))
  refine lv_aload_n hx hb dX9_againstPlace_9 rfl (lv_at hl 0 rfl) ?_
  refine m_get (ci := 7) (v := .ref a2) (C := RX9) (T := TX9) (N := 11) hx hb hts in_X9_againstPlace_X9 hown hE hM g_x rfl 1 (by decide) (hts (.fieldLink RX9 17 "CallWays2" "blocks" "[LCallWays2$Samples;") (by decide +kernel)) (fun _ h9 => h9) rfl dX9_againstPlace_10 ?_
  refine lv_iload_n hx hb dX9_againstPlace_13 rfl (lv_at hl 1 rfl) ?_
  refine m_qald (C := "CallWays2$Samples") (r := some h0) hx hb hE hM 5 g_a2 rfl (in_lit (N := 10) (by decide) hb0.1 hb0.2) hq dX9_againstPlace_14 ?_
  show W _ _ _ _ _ _ _ _ _ _ _ _ _ _ _ (F0 m 15 ls [.ref h0])
  refine lv_astore_n (lv' := [(3, .ref h0), (0, .ref x), (1, .int b), (2, .int i)]) hx hb dX9_againstPlace_15 rfl hl (by decide) rfl (fun ls hl => ?_)
  refine lv_aload_n hx hb dX9_againstPlace_16 rfl (lv_at hl 0 rfl) ?_
  refine lv_ifnonnull (tgt := 23) hx hb dX9_againstPlace_17 (by decide) ?_
  refine lv_aload_n hx hb dX9_againstPlace_23 rfl (lv_at hl 0 rfl) ?_
  refine lv_iload_n hx hb dX9_againstPlace_24 rfl (lv_at hl 3 rfl) ?_
  refine m_calli (va_runV (As := [.int i]) (rest := []) ⟨hx, hb, hml, hown, hts⟩ (c_X7_has l E M H.size h0 v n lane f i g_h0 g_v) (cwV 1 hts gX9_againstPlace_X7_has rfl rfl rfl (by decide +kernel) ⟨Nat.le_of_ble_eq_true rfl, Nat.le_of_ble_eq_true rfl⟩) (m_preV hE hM g_h0 rfl) rfl rfl hl.1 rfl (lv_room (Nat.le_of_ble_eq_true rfl)) dX9_againstPlace_25 ⟨Nat.le_of_ble_eq_true rfl, Nat.le_of_ble_eq_true rfl⟩) hM hS hA (fun r2 u H locs hw hM hS => ?_)
  obtain ⟨e_r2, eu⟩ := hw
  rw [eu] at hM
  subst e_r2
  refine lv_if_eq (tgt := 35) hx hb dX9_againstPlace_28 (by decide) (fun c_28 => ?_) (fun c_28 => ?_)
  · skip
    rw [bI_eq] at c_28
    refine lv_bipush (v := -7) hx hb dX9_againstPlace_35 (by decide) ?_
    exact m_iret hx hb hr hlocks hM hS (Nat.le_refl _) (Nat.le_refl _) dX9_againstPlace_37 (by first | exact ⟨(if_pos c_28).symm, rfl⟩ | exact ⟨(if_neg c_28).symm, rfl⟩)
  · skip
    rw [bI_ne] at c_28
    refine lv_iconst (v := 0) hx hb dX9_againstPlace_31 (by decide) ?_
    refine lv_goto (tgt := 37) hx hb dX9_againstPlace_32 (by decide) ?_
    exact m_iret hx hb hr hlocks hM hS (Nat.le_refl _) (Nat.le_refl _) dX9_againstPlace_37 (by first | exact ⟨(if_pos c_28).symm, rfl⟩ | exact ⟨(if_neg c_28).symm, rfl⟩)
def sInto (lane : Int32) (n : Nat) (bd way fr k : Int32) : Int32 := if way = 1 ∧ ¬ lane = bd then -6 else if k < 0 then -8 else if ¬ fr < 0 ∧ ¬ k < 0 ∧ ¬ nI n < k ∧ ¬ nI n - k < fr then 0 else -7
set_option maxHeartbeats 4000000 in
set_option maxRecDepth 100000 in
theorem c_X9_into_n (l : Launch) (E : mEnv) (M : mMem) (sz : Nat) (x : Nat) (way fr k : Int32)   : Met l yX9_againstBlock wsX9_againstBlock ({ frames := 0, cells := 0, slots := 0, locals := 0 }) (mPre E M sz [.ref x, .null, .int way, .int fr, .int k]) (mQi E M sz (fun r u => r = -5 ∧ u = M)) (0) (0) (mA M sz) := by
  refine m_met [.ref x, .null, .int way, .int fr, .int k] (by decide) rfl (Nat.le_of_ble_eq_true rfl) ?_
  intro p e s m below meth c ls H eH hx hb hr hts hown hlocks hnm hml hsz hE hM hS hA hl
  have hl : lv_has ls 5 [(0, .ref x), (1, .null), (2, .int way), (3, .int fr), (4, .int k)] := hl
  refine lv_aload_nN hx hb dX9_againstBlock_0 rfl (lv_at hl 1 rfl) ?_
  refine lv_ifnonnullN hx hb dX9_againstBlock_1 ?_
  refine lv_bipush (v := -5) hx hb dX9_againstBlock_4 (by decide) ?_
  exact m_iret hx hb hr hlocks hM hS (Nat.le_refl _) (Nat.le_refl _) dX9_againstBlock_6 (by exact ⟨rfl, rfl⟩)
theorem in_X9_againstBlock_X7 : ∀ w ∈ wsX70, w ∈ wsX9_againstBlock := by decide +kernel
theorem in_X9_againstBlock_X9 : ∀ w ∈ wsX90, w ∈ wsX9_againstBlock := by decide +kernel
set_option maxHeartbeats 4000000 in
set_option maxRecDepth 100000 in
theorem c_X9_into_s (l : Launch) (E : mEnv) (M : mMem) (sz : Nat) (x a1 a2 a3 a4 nn nf : Nat) (bd st c2 c3 c4 : Int32) (fi fb ff : Nat → Option Nat) (wt : Nat → UInt64) (h0 v n : Nat) (lane : Int32) (f : Nat → UInt64) (way fr k : Int32) (g_x : M x = some (mO 7 [.ref a1, .ref a2, .ref a3, .ref a4, .int (nI nn), .int (nI nf), .int bd, .int st, .int c2, .int c3, .int c4])) (g_h0 : M h0 = some (mO 5 [.int lane, .ref v])) (g_v : M v = some (mDb E n f))  : Met l yX9_againstBlock wsX9_againstBlock ({ frames := 1, cells := 0, slots := 0, locals := 22 }) (mPre E M sz [.ref x, .ref h0, .int way, .int fr, .int k]) (mQi E M sz (fun r u => r = sInto lane n bd way fr k ∧ u = M)) (0) (0) (mA M sz) := by
  refine m_met [.ref x, .ref h0, .int way, .int fr, .int k] (by decide) rfl (Nat.le_of_ble_eq_true rfl) ?_
  intro p e s m below meth c ls H eH hx hb hr hts hown hlocks hnm hml hsz hE hM hS hA hl
  have hl : lv_has ls 5 [(0, .ref x), (1, .ref h0), (2, .int way), (3, .int fr), (4, .int k)] := hl
  refine lv_aload_n hx hb dX9_againstBlock_0 rfl (lv_at hl 1 rfl) ?_
  refine lv_ifnonnull (tgt := 7) hx hb dX9_againstBlock_1 (by decide) ?_
  refine lv_iload_n hx hb dX9_againstBlock_7 rfl (lv_at hl 2 rfl) ?_
  refine lv_iconst (v := 1) hx hb dX9_againstBlock_8 (by decide) ?_
  refine lv_icmp_ne (tgt := 26) hx hb dX9_againstBlock_9 (by decide) (fun c_9 => ?_) (fun c_9 => ?_)
  · skip
    refine lv_iload hx hb dX9_againstBlock_26 (lv_at hl 4 rfl) ?_
    refine lv_if_ge (tgt := 34) hx hb dX9_againstBlock_28 (by decide) (fun c_28 => ?_) (fun c_28 => ?_)
    · skip
      refine lv_aload_n hx hb dX9_againstBlock_34 rfl (lv_at hl 1 rfl) ?_
      refine lv_iload_n hx hb dX9_againstBlock_35 rfl (lv_at hl 3 rfl) ?_
      refine lv_iload hx hb dX9_againstBlock_36 (lv_at hl 4 rfl) ?_
      refine m_calli (va_runV (As := [.int fr, .int k]) (rest := []) ⟨hx, hb, hml, hown, hts⟩ (c_X7_spans l E M H.size h0 v n lane f fr k g_h0 g_v) (cwV 2 hts gX9_againstBlock_X7_spans rfl rfl rfl (by decide +kernel) ⟨Nat.le_of_ble_eq_true rfl, Nat.le_of_ble_eq_true rfl⟩) (m_preV hE hM g_h0 rfl) rfl rfl hl.1 rfl (lv_room (Nat.le_of_ble_eq_true rfl)) dX9_againstBlock_38 ⟨Nat.le_of_ble_eq_true rfl, Nat.le_of_ble_eq_true rfl⟩) hM hS hA (fun r2 u H locs hw hM hS => ?_)
      obtain ⟨e_r2, eu⟩ := hw
      rw [eu] at hM
      subst e_r2
      refine lv_if_eq (tgt := 48) hx hb dX9_againstBlock_41 (by decide) (fun c_41 => ?_) (fun c_41 => ?_)
      · skip
        rw [bI_eq] at c_41
        refine lv_bipush (v := -7) hx hb dX9_againstBlock_48 (by decide) ?_
        exact m_iret hx hb hr hlocks hM hS (Nat.le_refl _) (Nat.le_refl _) dX9_againstBlock_50 (by refine ⟨?_, rfl⟩; unfold sInto; rw [if_neg (fun h => by first | exact c_9 h.1 | exact h.2 c_20), if_neg (Int32.not_lt.mpr c_28)]; first | exact (if_pos c_41).symm | exact (if_neg c_41).symm)
      · skip
        rw [bI_ne] at c_41
        refine lv_iconst (v := 0) hx hb dX9_againstBlock_44 (by decide) ?_
        refine lv_goto (tgt := 50) hx hb dX9_againstBlock_45 (by decide) ?_
        exact m_iret hx hb hr hlocks hM hS (Nat.le_refl _) (Nat.le_refl _) dX9_againstBlock_50 (by refine ⟨?_, rfl⟩; unfold sInto; rw [if_neg (fun h => by first | exact c_9 h.1 | exact h.2 c_20), if_neg (Int32.not_lt.mpr c_28)]; first | exact (if_pos c_41).symm | exact (if_neg c_41).symm)
    · skip
      refine lv_bipush (v := -8) hx hb dX9_againstBlock_31 (by decide) ?_
      exact m_iret hx hb hr hlocks hM hS (Nat.le_refl _) (Nat.le_refl _) dX9_againstBlock_33 (by refine ⟨?_, rfl⟩; unfold sInto; rw [if_neg (fun h => by first | exact c_9 h.1 | exact h.2 c_20), if_pos (Int32.not_le.mp c_28)])
  · skip
    refine lv_aload_n hx hb dX9_againstBlock_12 rfl (lv_at hl 1 rfl) ?_
    refine m_get (ci := 5) (v := .int lane) (C := RX7) (T := TX7) (N := 2) hx hb hts in_X9_againstBlock_X7 hown hE hM g_h0 rfl 0 (by decide) (hts (.fieldLink RX9 85 "CallWays2$Samples" "lane" "I") (by decide +kernel)) (fun _ h9 => h9) rfl dX9_againstBlock_13 ?_
    refine lv_aload_n hx hb dX9_againstBlock_16 rfl (lv_at hl 0 rfl) ?_
    refine m_get (ci := 7) (v := .int bd) (C := RX9) (T := TX9) (N := 11) hx hb hts in_X9_againstBlock_X9 hown hE hM g_x rfl 6 (by decide) (hts (.fieldLink RX9 31 "CallWays2" "boundLane" "I") (by decide +kernel)) (fun _ h9 => h9) rfl dX9_againstBlock_17 ?_
    refine lv_icmp_eq (tgt := 26) hx hb dX9_againstBlock_20 (by decide) (fun c_20 => ?_) (fun c_20 => ?_)
    · skip
      refine lv_iload hx hb dX9_againstBlock_26 (lv_at hl 4 rfl) ?_
      refine lv_if_ge (tgt := 34) hx hb dX9_againstBlock_28 (by decide) (fun c_28 => ?_) (fun c_28 => ?_)
      · skip
        refine lv_aload_n hx hb dX9_againstBlock_34 rfl (lv_at hl 1 rfl) ?_
        refine lv_iload_n hx hb dX9_againstBlock_35 rfl (lv_at hl 3 rfl) ?_
        refine lv_iload hx hb dX9_againstBlock_36 (lv_at hl 4 rfl) ?_
        refine m_calli (va_runV (As := [.int fr, .int k]) (rest := []) ⟨hx, hb, hml, hown, hts⟩ (c_X7_spans l E M H.size h0 v n lane f fr k g_h0 g_v) (cwV 2 hts gX9_againstBlock_X7_spans rfl rfl rfl (by decide +kernel) ⟨Nat.le_of_ble_eq_true rfl, Nat.le_of_ble_eq_true rfl⟩) (m_preV hE hM g_h0 rfl) rfl rfl hl.1 rfl (lv_room (Nat.le_of_ble_eq_true rfl)) dX9_againstBlock_38 ⟨Nat.le_of_ble_eq_true rfl, Nat.le_of_ble_eq_true rfl⟩) hM hS hA (fun r2 u H locs hw hM hS => ?_)
        obtain ⟨e_r2, eu⟩ := hw
        rw [eu] at hM
        subst e_r2
        refine lv_if_eq (tgt := 48) hx hb dX9_againstBlock_41 (by decide) (fun c_41 => ?_) (fun c_41 => ?_)
        · skip
          rw [bI_eq] at c_41
          refine lv_bipush (v := -7) hx hb dX9_againstBlock_48 (by decide) ?_
          exact m_iret hx hb hr hlocks hM hS (Nat.le_refl _) (Nat.le_refl _) dX9_againstBlock_50 (by refine ⟨?_, rfl⟩; unfold sInto; rw [if_neg (fun h => by first | exact c_9 h.1 | exact h.2 c_20), if_neg (Int32.not_lt.mpr c_28)]; first | exact (if_pos c_41).symm | exact (if_neg c_41).symm)
        · skip
          rw [bI_ne] at c_41
          refine lv_iconst (v := 0) hx hb dX9_againstBlock_44 (by decide) ?_
          refine lv_goto (tgt := 50) hx hb dX9_againstBlock_45 (by decide) ?_
          exact m_iret hx hb hr hlocks hM hS (Nat.le_refl _) (Nat.le_refl _) dX9_againstBlock_50 (by refine ⟨?_, rfl⟩; unfold sInto; rw [if_neg (fun h => by first | exact c_9 h.1 | exact h.2 c_20), if_neg (Int32.not_lt.mpr c_28)]; first | exact (if_pos c_41).symm | exact (if_neg c_41).symm)
      · skip
        refine lv_bipush (v := -8) hx hb dX9_againstBlock_31 (by decide) ?_
        exact m_iret hx hb hr hlocks hM hS (Nat.le_refl _) (Nat.le_refl _) dX9_againstBlock_33 (by refine ⟨?_, rfl⟩; unfold sInto; rw [if_neg (fun h => by first | exact c_9 h.1 | exact h.2 c_20), if_pos (Int32.not_le.mp c_28)])
    · skip
      refine lv_bipush (v := -6) hx hb dX9_againstBlock_23 (by decide) ?_
      exact m_iret hx hb hr hlocks hM hS (Nat.le_refl _) (Nat.le_refl _) dX9_againstBlock_25 (by refine ⟨?_, rfl⟩; unfold sInto; rw [if_pos ⟨c_9, c_20⟩])
