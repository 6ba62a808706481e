theorem spn_iff {n a c : Nat} (hn : n ≤ 40) (ha : a < 2 ^ 31) (hc : c < 2 ^ 31) : spn n (nI a) (nI c) ↔ a + c ≤ n := by
  have h0 : ∀ z : Nat, z < 2 ^ 31 → ¬ nI z < 0 := fun z hz q => by
    rw [show (0 : Int32) = nI 0 from rfl, nI_ltI hz (by decide)] at q
    omega
  constructor
  · intro h
    have := spn_cl hn h
    rw [nI_clamp ha, nI_clamp hc] at this
    exact this
  · intro h
    have hs : nI n - nI c = nI (n - c) := by
      apply Int32.toInt_inj.mp
      rw [Int32.toInt_sub, nI_toInt (by omega), nI_toInt hc, nI_toInt (by omega), Int.bmod_eq_of_le (by omega) (by omega)]
      omega
    refine ⟨h0 a ha, h0 c hc, ?_, ?_⟩
    · rw [nI_ltI (by omega) hc]; omega
    · rw [hs, nI_ltI (by omega) ha]; omega
theorem lsum {n a c : Nat} (hn : n ≤ 40) (ha : a < 2 ^ 31) (hc : c < 2 ^ 31) : 0 < lg_cmp ((nI a).toInt64 + (nI c).toInt64) (nI n).toInt64 ↔ ¬ a + c ≤ n := by
  have h1 : ((nI a).toInt64 + (nI c).toInt64).toInt = (a : Int) + c := by
    rw [Int64.toInt_add, Int32.toInt_toInt64, Int32.toInt_toInt64, nI_toInt ha, nI_toInt hc, Int.bmod_eq_of_le (by omega) (by omega)]
  have h2 : (nI n).toInt64.toInt = (n : Int) := by rw [Int32.toInt_toInt64, nI_toInt (by omega)]
  have h3 : 0 < lg_cmp ((nI a).toInt64 + (nI c).toInt64) (nI n).toInt64 ↔ (nI n).toInt64 < (nI a).toInt64 + (nI c).toInt64 := by
    unfold lg_cmp
    by_cases q : (nI a).toInt64 + (nI c).toInt64 > (nI n).toInt64
    · rw [if_pos q]; exact ⟨fun _ => q, fun _ => by decide⟩
    · rw [if_neg q]
      by_cases q2 : (nI a).toInt64 + (nI c).toInt64 = (nI n).toInt64
      · rw [if_pos q2]; exact ⟨fun z => absurd z (by decide), fun z => absurd z q⟩
      · rw [if_neg q2]; exact ⟨fun z => absurd z (by decide), fun z => absurd z q⟩
  rw [h3, Int64.lt_iff_toInt_lt, h1, h2]
  omega
theorem k40a (w a k : Nat) : (40 : Int32) * nI w + nI a + nI k = nI (40 * w + (a + k)) := by rw [show (40 : Int32) = nI 40 from rfl, pk_mul, nI_add, nI_add, Nat.add_assoc]
theorem sC_b {bk : Nat → Option Nat} {rw : Nat → sRw} {fr i to j k : Int32} (h : ¬ (vB fr ∧ vB to)) : sCopy bk rw fr i to j k = -1 := if_neg h
theorem sC_n {bk : Nat → Option Nat} {rw : Nat → sRw} {fr i to j k : Int32} (h : vB fr ∧ vB to) (h1 : bk fr.toNatClampNeg = none ∨ bk to.toNatClampNeg = none) : sCopy bk rw fr i to j k = -5 := by
  unfold sCopy
  rw [if_pos h]
  rcases h1 with h1 | h1
  · rw [h1]
  · rw [h1]
    cases bk fr.toNatClampNeg <;> rfl
theorem sC_s {bk : Nat → Option Nat} {rw : Nat → sRw} {fr i to j k : Int32} {r q : Nat} (h : vB fr ∧ vB to) (h1 : bk fr.toNatClampNeg = some r) (h2 : bk to.toNatClampNeg = some q) : sCopy bk rw fr i to j k = (if (rw r).1 = (rw q).1 then (if spn (rw r).2.1 i k ∧ spn (rw q).2.1 j k then 0 else -7) else -9) := by
  unfold sCopy
  rw [if_pos h, h1, h2]
theorem mv_new {SM MV : Nat → Int64} {w w2 a c k n n2 q : Nat} {lane : Int32} {f f2 : Nat → UInt64} (h : ∀ j, j < n → SM (40 * w + j) = sBits lane (f j)) (h2 : ∀ j, j < n2 → SM (40 * w2 + j) = sBits lane (f2 j)) (hMV : ∀ j, j < k → MV j = SM (40 * w + (a + j))) (ha : a + k ≤ n) (hq : q < n2) : va_cpy MV SM 0 (40 * w2 + c) k (40 * w2 + q) = sBits lane (va_cpy f f2 a c k q) := by
  simp only [va_cpy]
  by_cases h1 : c ≤ q ∧ q < c + k
  · rw [if_pos (by omega), if_pos h1, hMV _ (by omega), h _ (by omega)]
    congr 2
    omega
  · rw [if_neg (by omega), if_neg h1]
    exact h2 q hq
theorem mv_old {SM MV : Nat → Int64} {w2 c k r q : Nat} (hr : r ≠ w2) (hc : c + k ≤ 40) (hq : q < 40) : va_cpy MV SM 0 (40 * w2 + c) k (40 * r + q) = SM (40 * r + q) := by
  simp only [va_cpy]
  rw [if_neg (by omega)]
theorem mv_up {MV SM : Nat → Int64} {x k : Nat} (h : ∀ j, j < k → MV j = SM (x + j)) : ∀ j, j < k + 1 → vp_updL MV k (SM (x + k)) j = SM (x + j) := by
  intro j hj
  by_cases hjk : j = k
  · subst hjk; simp [vp_updL]
  · simp only [vp_updL, hjk, if_false]; exact h j (by omega)
theorem mv_up2 {MV SM : Nat → Int64} {w a k : Nat} (h : ∀ j, j < k → MV j = SM (40 * w + (a + j))) : ∀ j, j < k + 1 → vp_updL MV k (SM (40 * w + (a + k))) j = SM (40 * w + (a + j)) := by
  intro j hj
  by_cases hjk : j = k
  · subst hjk; simp [vp_updL]
  · simp only [vp_updL, hjk, if_false]; exact h j (by omega)
theorem in_X10_copy_X10 : ∀ w ∈ wsX100, w ∈ wsX10_copy := by decide +kernel
set_option maxHeartbeats 4000000 in
set_option maxRecDepth 100000 in
theorem c_X10_copy (l : Launch) (E : mEnv) (M : mMem) (sz : Nat) (y b1 b2 b3 b4 b5 b6 b7 b8 b9 b10 b11 b12 b13 b14 b15 b16 nn nf : Nat) (ins : Nat → sIn) (fn : Nat → Int32 × Int32) (bk : Nat → Option Nat) (rw : Nat → sRw) (bd st c2 c3 c4 : Int32) (hV : Inv (nn, ins, nf, fn, bk, rw, bd, st, c2, c3, c4)) (hC : mR E M y b1 b2 b3 b4 b5 b6 b7 b8 b9 b10 b11 b12 b13 b14 b15 b16 (nn, ins, nf, fn, bk, rw, bd, st, c2, c3, c4)) (hnd : [y, b1, b2, b3, b4, b5, b6, b7, b8, b9, b10, b11, b12, b13, b14, b15, b16].Nodup) (fr i to j k : Int32)    : Met l yX10_copy wsX10_copy ({ frames := 1, cells := 0, slots := 0, locals := 22 }) (mPre E M sz [.ref y, .int fr, .int i, .int to, .int j, .int k]) (mQi E M sz (fun r u => r = aCopy (nn, ins, nf, fn, bk, rw, bd, st, c2, c3, c4) fr i to j k ∧ mR E u y b1 b2 b3 b4 b5 b6 b7 b8 b9 b10 b11 b12 b13 b14 b15 b16 (nCopy (nn, ins, nf, fn, bk, rw, bd, st, c2, c3, c4) fr i to j k) ∧ kept (nol y b1 b2 b3 b4 b5 b6 b7 b8 b9 b10 b11 b12 b13 b14 b15 b16) M u)) (0) (0) (mA M sz) := by
  refine m_met [.ref y, .int fr, .int i, .int to, .int j, .int k] (by decide) rfl (Nat.le_of_ble_eq_true rfl) ?_
  intro p e s m below meth c ls H eH hx hb hr hts hown hlocks hnm hml hsz hE hM hS hA hl
  have hl : lv_has ls 9 [(0, .ref y), (1, .int fr), (2, .int i), (3, .int to), (4, .int j), (5, .int k)] := hl
  have hC0 := hC
  obtain ⟨fa, B, T, LN, SZ, SM, SO, KN, PI, ON, PH, LE, KD, NM, CT, CM, MV, ⟨g_y, g_b1, g_b2, g_b3, g_b4, g_b5, g_b6, g_b7, g_b8, g_b9, g_b10, g_b11, g_b12, g_b13, g_b14, g_b15, g_b16⟩, hB, hT, hR, hN, hF, hc2, hc3, hc4⟩ := hC
  have hiK := hV.insK
  have h24t := hV.tb24
  have h40 := hV.n40
  obtain ⟨hnn, hnf, hvI, hvD, hv24, hvR, hvF⟩ := id hV
  have h24 : ∀ k, k < 10 → ∀ r, bk k = some r → r < 24 := fun k hk r hr => hv24 r (Or.inl ⟨k, hk, hr⟩)
  have hk : kept (nol y b1 b2 b3 b4 b5 b6 b7 b8 b9 b10 b11 b12 b13 b14 b15 b16) M M := kept.rf
  refine lv_iload_n hx hb dX10_copy_0 rfl (lv_at hl 1 rfl) ?_
  refine lv_iconst (v := 0) hx hb dX10_copy_1 (by decide) ?_
  refine lv_bipush (v := 9) hx hb dX10_copy_2 (by decide) ?_
  refine m_calli (va_runS (As := [.int fr, .int 0, .int 9]) (rest := []) ⟨hx, hb, hml, hown, hts⟩ (c_X10_in l E M H.size fr 0 9) (va_cwS 3 hts gX10_copy_X10_in rfl rfl rfl (by decide +kernel) ⟨Nat.le_of_ble_eq_true rfl, Nat.le_of_ble_eq_true rfl⟩) (m_preS hE hM) rfl rfl hl.1 rfl (lv_room (Nat.le_of_ble_eq_true rfl)) dX10_copy_4 ⟨Nat.le_of_ble_eq_true rfl, Nat.le_of_ble_eq_true rfl⟩) hM hS hA (fun r0 u H locs hw hM hS => ?_)
  obtain ⟨e_r0, eu⟩ := hw
  rw [eu] at hM
  rw [bI_congr (in_9)] at e_r0
  subst e_r0
  refine lv_if_eq (tgt := 20) hx hb dX10_copy_7 (by decide) (fun c_7 => ?_) (fun c_7 => ?_)
  · skip
    rw [bI_eq] at c_7
    have hz : ¬ (vB fr ∧ vB to) := na1 c_7
    refine lv_aload_n hx hb dX10_copy_20 rfl (lv_at hl 0 rfl) ?_
    refine lv_iconst (v := -1) hx hb dX10_copy_21 (by decide) ?_
    refine m_calli (va_runV (As := [.int (-1)]) (rest := []) ⟨hx, hb, hml, hown, hts⟩ (c_X10_says l E M H.size y b1 b2 b3 b4 b5 b6 b7 b8 b9 b10 b11 b12 b13 b14 b15 b16 (nI nn) (nI nf) bd st fa (-1 : Int32) g_y) (cwV 1 hts gX10_copy_X10_says rfl rfl rfl (by decide +kernel) ⟨Nat.le_of_ble_eq_true rfl, Nat.le_of_ble_eq_true rfl⟩) (m_preV hE hM g_y rfl) rfl rfl hl.1 rfl (lv_room (Nat.le_of_ble_eq_true rfl)) dX10_copy_22 ⟨Nat.le_of_ble_eq_true rfl, Nat.le_of_ble_eq_true rfl⟩) hM hS hA (fun r2 M1 H locs hw hM hS => ?_)
    obtain ⟨e_r2, eM1⟩ := hw
    subst e_r2
    have g_b1_ : M1 b1 = some (mI E 10 B) := by rw [eM1]; exact mUp_at (nd_ne hnd 1 0 rfl rfl (by decide)) g_b1
    have g_b2_ : M1 b2 = some (mI E 12 T) := by rw [eM1]; exact mUp_at (nd_ne hnd 2 0 rfl rfl (by decide)) g_b2
    have g_b3_ : M1 b3 = some (mI E 24 LN) := by rw [eM1]; exact mUp_at (nd_ne hnd 3 0 rfl rfl (by decide)) g_b3
    have g_b4_ : M1 b4 = some (mI E 24 SZ) := by rw [eM1]; exact mUp_at (nd_ne hnd 4 0 rfl rfl (by decide)) g_b4
    have g_b5_ : M1 b5 = some (mJ E 960 SM) := by rw [eM1]; exact mUp_at (nd_ne hnd 5 0 rfl rfl (by decide)) g_b5
    have g_b6_ : M1 b6 = some (mI E 12 SO) := by rw [eM1]; exact mUp_at (nd_ne hnd 6 0 rfl rfl (by decide)) g_b6
    have g_b7_ : M1 b7 = some (mI E 48 KN) := by rw [eM1]; exact mUp_at (nd_ne hnd 7 0 rfl rfl (by decide)) g_b7
    have g_b8_ : M1 b8 = some (mI E 12 PI) := by rw [eM1]; exact mUp_at (nd_ne hnd 8 0 rfl rfl (by decide)) g_b8
    have g_b9_ : M1 b9 = some (mZ E 12 ON) := by rw [eM1]; exact mUp_at (nd_ne hnd 9 0 rfl rfl (by decide)) g_b9
    have g_b10_ : M1 b10 = some (mI E 12 PH) := by rw [eM1]; exact mUp_at (nd_ne hnd 10 0 rfl rfl (by decide)) g_b10
    have g_b11_ : M1 b11 = some (mDb E 12 LE) := by rw [eM1]; exact mUp_at (nd_ne hnd 11 0 rfl rfl (by decide)) g_b11
    have g_b12_ : M1 b12 = some (mI E 8 KD) := by rw [eM1]; exact mUp_at (nd_ne hnd 12 0 rfl rfl (by decide)) g_b12
    have g_b13_ : M1 b13 = some (mI E 8 NM) := by rw [eM1]; exact mUp_at (nd_ne hnd 13 0 rfl rfl (by decide)) g_b13
    have g_b14_ : M1 b14 = some (mI E 3 CT) := by rw [eM1]; exact mUp_at (nd_ne hnd 14 0 rfl rfl (by decide)) g_b14
    have g_b15_ : M1 b15 = some (mDb E 40 CM) := by rw [eM1]; exact mUp_at (nd_ne hnd 15 0 rfl rfl (by decide)) g_b15
    have g_b16_ : M1 b16 = some (mJ E 40 MV) := by rw [eM1]; exact mUp_at (nd_ne hnd 16 0 rfl rfl (by decide)) g_b16
    have g_b1 := g_b1_
    have g_b2 := g_b2_
    have g_b3 := g_b3_
    have g_b4 := g_b4_
    have g_b5 := g_b5_
    have g_b6 := g_b6_
    have g_b7 := g_b7_
    have g_b8 := g_b8_
    have g_b9 := g_b9_
    have g_b10 := g_b10_
    have g_b11 := g_b11_
    have g_b12 := g_b12_
    have g_b13 := g_b13_
    have g_b14 := g_b14_
    have g_b15 := g_b15_
    have g_b16 := g_b16_
    have g_y : M1 y = some (mO 8 [.ref b1, .ref b2, .ref b3, .ref b4, .ref b5, .int (nI nn), .ref b6, .ref b7, .ref b8, .ref b9, .ref b10, .ref b11, .int (nI nf), .ref b12, .ref b13, .int bd, .int (if (-1 : Int32) < 0 then (-1 : Int32) else 0), .int fa, .ref b14, .ref b15, .ref b16]) := by rw [eM1]; exact mUp_self _ _ _
    have hk : kept (nol y b1 b2 b3 b4 b5 b6 b7 b8 b9 b10 b11 b12 b13 b14 b15 b16) M M1 := (by rw [eM1]; exact hk.up (nol_in 0 rfl))
    rw [if_pos (show (-1 : Int32) < 0 by decide)] at g_y
    exact m_iret hx hb hr hlocks hM hS (Nat.le_refl _) (Nat.le_refl _) dX10_copy_25 (by have hs : sCopy bk rw fr i to j k = -1 := sC_b hz; refine ⟨(by show _ = (if sCopy bk rw fr i to j k = 0 then 1 else sCopy bk rw fr i to j k); rw [hs]; rfl), ?_, hk⟩; show mR E _ y b1 b2 b3 b4 b5 b6 b7 b8 b9 b10 b11 b12 b13 b14 b15 b16 (nn, ins, nf, fn, bk, (if sCopy bk rw fr i to j k = 0 then _ else rw), bd, sCopy bk rw fr i to j k, c2, c3, c4); rw [hs]; rw [if_neg (by decide)]; exact ⟨_, _, _, _, _, _, _, _, _, _, _, _, _, _, _, _, _, ⟨g_y, g_b1, g_b2, g_b3, g_b4, g_b5, g_b6, g_b7, g_b8, g_b9, g_b10, g_b11, g_b12, g_b13, g_b14, g_b15, g_b16⟩, hB, hT, hR, hN, hF, hc2, hc3, hc4⟩)
  · skip
    rw [bI_ne] at c_7
    obtain ⟨jb, hjb, hbj, hjbc⟩ := vB_ix c_7
    have hbin : vp_in fr 10 := (by rw [hbj]; exact vp_in_nI (by omega) (by decide))
    refine lv_iload_n hx hb dX10_copy_10 rfl (lv_at hl 3 rfl) ?_
    refine lv_iconst (v := 0) hx hb dX10_copy_11 (by decide) ?_
    refine lv_bipush (v := 9) hx hb dX10_copy_12 (by decide) ?_
    refine m_calli (va_runS (As := [.int to, .int 0, .int 9]) (rest := []) ⟨hx, hb, hml, hown, hts⟩ (c_X10_in l E M H.size to 0 9) (va_cwS 3 hts gX10_copy_X10_in rfl rfl rfl (by decide +kernel) ⟨Nat.le_of_ble_eq_true rfl, Nat.le_of_ble_eq_true rfl⟩) (m_preS hE hM) rfl rfl hl.1 rfl (lv_room (Nat.le_of_ble_eq_true rfl)) dX10_copy_14 ⟨Nat.le_of_ble_eq_true rfl, Nat.le_of_ble_eq_true rfl⟩) hM hS hA (fun r0 u H locs hw hM hS => ?_)
    obtain ⟨e_r0, eu⟩ := hw
    rw [eu] at hM
    rw [bI_congr (in_9)] at e_r0
    subst e_r0
    refine lv_if_ne (tgt := 26) hx hb dX10_copy_17 (by decide) (fun c_17 => ?_) (fun c_17 => ?_)
    · skip
      rw [bI_ne] at c_17
      obtain ⟨jb2, hjb2, hbj2, hjbc2⟩ := vB_ix c_17
      have hbin2 : vp_in to 10 := (by rw [hbj2]; exact vp_in_nI (by omega) (by decide))
      refine lv_aload_n hx hb dX10_copy_26 rfl (lv_at hl 0 rfl) ?_
      refine m_get (ci := 8) (v := .ref b1) (C := RX10) (T := TX10) (N := 21) hx hb hts in_X10_copy_X10 hown hE hM g_y rfl 0 (by decide) (hts (.fieldLink RX10 7 "CallWays2Model" "blocks" "[I") (by decide +kernel)) (fun _ h9 => h9) rfl dX10_copy_27 ?_
      refine lv_iload_n hx hb dX10_copy_30 rfl (lv_at hl 1 rfl) ?_
      refine m_iald hx hb hE hM g_b1 hbin dX10_copy_31 ?_
      rw [show B fr.toNatClampNeg = rI (bk jb) from by rw [hjbc]; exact hB jb hjb]
      refine lv_istore (lv' := [(6, .int (rI (bk jb))), (0, .ref y), (1, .int fr), (2, .int i), (3, .int to), (4, .int j), (5, .int k)]) hx hb dX10_copy_32 hl (by decide) rfl (fun ls hl => ?_)
      refine lv_aload_n hx hb dX10_copy_34 rfl (lv_at hl 1 rfl) ?_
      refine m_get (ci := 8) (v := .ref b1) (C := RX10) (T := TX10) (N := 21) hx hb hts in_X10_copy_X10 hown hE hM g_y rfl 0 (by decide) (hts (.fieldLink RX10 7 "CallWays2Model" "blocks" "[I") (by decide +kernel)) (fun _ h9 => h9) rfl dX10_copy_35 ?_
      refine lv_iload_n hx hb dX10_copy_38 rfl (lv_at hl 4 rfl) ?_
      refine m_iald hx hb hE hM g_b1 hbin2 dX10_copy_39 ?_
      rw [show B to.toNatClampNeg = rI (bk jb2) from by rw [hjbc2]; exact hB jb2 hjb2]
      refine lv_istore (lv' := [(7, .int (rI (bk jb2))), (6, .int (rI (bk jb))), (0, .ref y), (1, .int fr), (2, .int i), (3, .int to), (4, .int j), (5, .int k)]) hx hb dX10_copy_40 hl (by decide) rfl (fun ls hl => ?_)
      refine lv_iload hx hb dX10_copy_42 (lv_at hl 1 rfl) ?_
      rcases hbk : bk jb with _ | w
      · refine lv_if_lt (tgt := 52) hx hb dX10_copy_44 (by decide) (fun _ => ?_) (fun h9 => absurd (by decide) h9)
        have hs5 : sCopy bk rw fr i to j k = -5 := sC_n ⟨c_7, c_17⟩ (Or.inl (by rw [hjbc]; exact hbk))
        refine lv_aload_n hx hb dX10_copy_52 rfl (lv_at hl 2 rfl) ?_
        refine lv_bipush (v := -5) hx hb dX10_copy_53 (by decide) ?_
        refine m_calli (va_runV (As := [.int (-5)]) (rest := []) ⟨hx, hb, hml, hown, hts⟩ (c_X10_says l E M H.size y b1 b2 b3 b4 b5 b6 b7 b8 b9 b10 b11 b12 b13 b14 b15 b16 (nI nn) (nI nf) bd st fa (-5 : Int32) g_y) (cwV 1 hts gX10_copy_X10_says rfl rfl rfl (by decide +kernel) ⟨Nat.le_of_ble_eq_true rfl, Nat.le_of_ble_eq_true rfl⟩) (m_preV hE hM g_y rfl) rfl rfl hl.1 rfl (lv_room (Nat.le_of_ble_eq_true rfl)) dX10_copy_55 ⟨Nat.le_of_ble_eq_true rfl, Nat.le_of_ble_eq_true rfl⟩) hM hS hA (fun r2 M2 H locs hw hM hS => ?_)
        obtain ⟨e_r2, eM2⟩ := hw
        subst e_r2
        have g_b1_ : M2 b1 = some (mI E 10 B) := by rw [eM2]; exact mUp_at (nd_ne hnd 1 0 rfl rfl (by decide)) g_b1
        have g_b2_ : M2 b2 = some (mI E 12 T) := by rw [eM2]; exact mUp_at (nd_ne hnd 2 0 rfl rfl (by decide)) g_b2
        have g_b3_ : M2 b3 = some (mI E 24 LN) := by rw [eM2]; exact mUp_at (nd_ne hnd 3 0 rfl rfl (by decide)) g_b3
        have g_b4_ : M2 b4 = some (mI E 24 SZ) := by rw [eM2]; exact mUp_at (nd_ne hnd 4 0 rfl rfl (by decide)) g_b4
        have g_b5_ : M2 b5 = some (mJ E 960 SM) := by rw [eM2]; exact mUp_at (nd_ne hnd 5 0 rfl rfl (by decide)) g_b5
        have g_b6_ : M2 b6 = some (mI E 12 SO) := by rw [eM2]; exact mUp_at (nd_ne hnd 6 0 rfl rfl (by decide)) g_b6
        have g_b7_ : M2 b7 = some (mI E 48 KN) := by rw [eM2]; exact mUp_at (nd_ne hnd 7 0 rfl rfl (by decide)) g_b7
        have g_b8_ : M2 b8 = some (mI E 12 PI) := by rw [eM2]; exact mUp_at (nd_ne hnd 8 0 rfl rfl (by decide)) g_b8
        have g_b9_ : M2 b9 = some (mZ E 12 ON) := by rw [eM2]; exact mUp_at (nd_ne hnd 9 0 rfl rfl (by decide)) g_b9
        have g_b10_ : M2 b10 = some (mI E 12 PH) := by rw [eM2]; exact mUp_at (nd_ne hnd 10 0 rfl rfl (by decide)) g_b10
        have g_b11_ : M2 b11 = some (mDb E 12 LE) := by rw [eM2]; exact mUp_at (nd_ne hnd 11 0 rfl rfl (by decide)) g_b11
        have g_b12_ : M2 b12 = some (mI E 8 KD) := by rw [eM2]; exact mUp_at (nd_ne hnd 12 0 rfl rfl (by decide)) g_b12
        have g_b13_ : M2 b13 = some (mI E 8 NM) := by rw [eM2]; exact mUp_at (nd_ne hnd 13 0 rfl rfl (by decide)) g_b13
        have g_b14_ : M2 b14 = some (mI E 3 CT) := by rw [eM2]; exact mUp_at (nd_ne hnd 14 0 rfl rfl (by decide)) g_b14
        have g_b15_ : M2 b15 = some (mDb E 40 CM) := by rw [eM2]; exact mUp_at (nd_ne hnd 15 0 rfl rfl (by decide)) g_b15
        have g_b16_ : M2 b16 = some (mJ E 40 MV) := by rw [eM2]; exact mUp_at (nd_ne hnd 16 0 rfl rfl (by decide)) g_b16
        have g_b1 := g_b1_
        have g_b2 := g_b2_
        have g_b3 := g_b3_
        have g_b4 := g_b4_
        have g_b5 := g_b5_
        have g_b6 := g_b6_
        have g_b7 := g_b7_
        have g_b8 := g_b8_
        have g_b9 := g_b9_
        have g_b10 := g_b10_
        have g_b11 := g_b11_
        have g_b12 := g_b12_
        have g_b13 := g_b13_
        have g_b14 := g_b14_
        have g_b15 := g_b15_
        have g_b16 := g_b16_
        have g_y : M2 y = some (mO 8 [.ref b1, .ref b2, .ref b3, .ref b4, .ref b5, .int (nI nn), .ref b6, .ref b7, .ref b8, .ref b9, .ref b10, .ref b11, .int (nI nf), .ref b12, .ref b13, .int bd, .int (if (-5 : Int32) < 0 then (-5 : Int32) else 0), .int fa, .ref b14, .ref b15, .ref b16]) := by rw [eM2]; exact mUp_self _ _ _
        have hk : kept (nol y b1 b2 b3 b4 b5 b6 b7 b8 b9 b10 b11 b12 b13 b14 b15 b16) M M2 := (by rw [eM2]; exact hk.up (nol_in 0 rfl))
        rw [if_pos (show (-5 : Int32) < 0 by decide)] at g_y
        exact m_iret hx hb hr hlocks hM hS (Nat.le_refl _) (Nat.le_refl _) dX10_copy_58 (by have hs : sCopy bk rw fr i to j k = -5 := hs5; refine ⟨(by show _ = (if sCopy bk rw fr i to j k = 0 then 1 else sCopy bk rw fr i to j k); rw [hs]; rfl), ?_, hk⟩; show mR E _ y b1 b2 b3 b4 b5 b6 b7 b8 b9 b10 b11 b12 b13 b14 b15 b16 (nn, ins, nf, fn, bk, (if sCopy bk rw fr i to j k = 0 then _ else rw), bd, sCopy bk rw fr i to j k, c2, c3, c4); rw [hs]; rw [if_neg (by decide)]; exact ⟨_, _, _, _, _, _, _, _, _, _, _, _, _, _, _, _, _, ⟨g_y, g_b1, g_b2, g_b3, g_b4, g_b5, g_b6, g_b7, g_b8, g_b9, g_b10, g_b11, g_b12, g_b13, g_b14, g_b15, g_b16⟩, hB, hT, hR, hN, hF, hc2, hc3, hc4⟩)
      · skip
        have hlv : live nn ins bk w := Or.inl ⟨jb, hjb, hbk⟩
        rcases hrw : rw w with ⟨lane, n0, f0⟩
        obtain ⟨hLn, hSz, hSm⟩ := hR w hlv _ _ _ hrw
        have hw24 := hv24 w hlv
        obtain ⟨hn40, hlane, hvo⟩ := hvR w hlv _ _ _ hrw
        refine lv_if_lt (tgt := 52) hx hb dX10_copy_44 (by decide) (fun h9 => absurd h9 (Int32.not_lt.mpr ((nI_leI (a := 0) (by decide) (by omega)).mpr (Nat.zero_le w)))) (fun _ => ?_)
        rw [hbk] at hl
        replace hl : lv_has ls 9 [(7, .int (rI (bk jb2))), (6, .int (nI w)), (0, .ref y), (1, .int fr), (2, .int i), (3, .int to), (4, .int j), (5, .int k)] := hl
        refine lv_iload hx hb dX10_copy_47 (lv_at hl 0 rfl) ?_
        rcases hbk2 : bk jb2 with _ | w2
        · refine lv_if_ge (tgt := 59) hx hb dX10_copy_49 (by decide) (fun h9 => absurd h9 (by decide)) (fun _ => ?_)
          have hs5 : sCopy bk rw fr i to j k = -5 := sC_n ⟨c_7, c_17⟩ (Or.inr (by rw [hjbc2]; exact hbk2))
          refine lv_aload_n hx hb dX10_copy_52 rfl (lv_at hl 2 rfl) ?_
          refine lv_bipush (v := -5) hx hb dX10_copy_53 (by decide) ?_
          refine m_calli (va_runV (As := [.int (-5)]) (rest := []) ⟨hx, hb, hml, hown, hts⟩ (c_X10_says l E M H.size y b1 b2 b3 b4 b5 b6 b7 b8 b9 b10 b11 b12 b13 b14 b15 b16 (nI nn) (nI nf) bd st fa (-5 : Int32) g_y) (cwV 1 hts gX10_copy_X10_says rfl rfl rfl (by decide +kernel) ⟨Nat.le_of_ble_eq_true rfl, Nat.le_of_ble_eq_true rfl⟩) (m_preV hE hM g_y rfl) rfl rfl hl.1 rfl (lv_room (Nat.le_of_ble_eq_true rfl)) dX10_copy_55 ⟨Nat.le_of_ble_eq_true rfl, Nat.le_of_ble_eq_true rfl⟩) hM hS hA (fun r2 M3 H locs hw hM hS => ?_)
          obtain ⟨e_r2, eM3⟩ := hw
          subst e_r2
          have g_b1_ : M3 b1 = some (mI E 10 B) := by rw [eM3]; exact mUp_at (nd_ne hnd 1 0 rfl rfl (by decide)) g_b1
          have g_b2_ : M3 b2 = some (mI E 12 T) := by rw [eM3]; exact mUp_at (nd_ne hnd 2 0 rfl rfl (by decide)) g_b2
          have g_b3_ : M3 b3 = some (mI E 24 LN) := by rw [eM3]; exact mUp_at (nd_ne hnd 3 0 rfl rfl (by decide)) g_b3
          have g_b4_ : M3 b4 = some (mI E 24 SZ) := by rw [eM3]; exact mUp_at (nd_ne hnd 4 0 rfl rfl (by decide)) g_b4
          have g_b5_ : M3 b5 = some (mJ E 960 SM) := by rw [eM3]; exact mUp_at (nd_ne hnd 5 0 rfl rfl (by decide)) g_b5
          have g_b6_ : M3 b6 = some (mI E 12 SO) := by rw [eM3]; exact mUp_at (nd_ne hnd 6 0 rfl rfl (by decide)) g_b6
          have g_b7_ : M3 b7 = some (mI E 48 KN) := by rw [eM3]; exact mUp_at (nd_ne hnd 7 0 rfl rfl (by decide)) g_b7
          have g_b8_ : M3 b8 = some (mI E 12 PI) := by rw [eM3]; exact mUp_at (nd_ne hnd 8 0 rfl rfl (by decide)) g_b8
          have g_b9_ : M3 b9 = some (mZ E 12 ON) := by rw [eM3]; exact mUp_at (nd_ne hnd 9 0 rfl rfl (by decide)) g_b9
          have g_b10_ : M3 b10 = some (mI E 12 PH) := by rw [eM3]; exact mUp_at (nd_ne hnd 10 0 rfl rfl (by decide)) g_b10
          have g_b11_ : M3 b11 = some (mDb E 12 LE) := by rw [eM3]; exact mUp_at (nd_ne hnd 11 0 rfl rfl (by decide)) g_b11
          have g_b12_ : M3 b12 = some (mI E 8 KD) := by rw [eM3]; exact mUp_at (nd_ne hnd 12 0 rfl rfl (by decide)) g_b12
          have g_b13_ : M3 b13 = some (mI E 8 NM) := by rw [eM3]; exact mUp_at (nd_ne hnd 13 0 rfl rfl (by decide)) g_b13
          have g_b14_ : M3 b14 = some (mI E 3 CT) := by rw [eM3]; exact mUp_at (nd_ne hnd 14 0 rfl rfl (by decide)) g_b14
          have g_b15_ : M3 b15 = some (mDb E 40 CM) := by rw [eM3]; exact mUp_at (nd_ne hnd 15 0 rfl rfl (by decide)) g_b15
          have g_b16_ : M3 b16 = some (mJ E 40 MV) := by rw [eM3]; exact mUp_at (nd_ne hnd 16 0 rfl rfl (by decide)) g_b16
          have g_b1 := g_b1_
          have g_b2 := g_b2_
          have g_b3 := g_b3_
          have g_b4 := g_b4_
          have g_b5 := g_b5_
          have g_b6 := g_b6_
          have g_b7 := g_b7_
          have g_b8 := g_b8_
          have g_b9 := g_b9_
          have g_b10 := g_b10_
          have g_b11 := g_b11_
          have g_b12 := g_b12_
          have g_b13 := g_b13_
          have g_b14 := g_b14_
          have g_b15 := g_b15_
          have g_b16 := g_b16_
          have g_y : M3 y = some (mO 8 [.ref b1, .ref b2, .ref b3, .ref b4, .ref b5, .int (nI nn), .ref b6, .ref b7, .ref b8, .ref b9, .ref b10, .ref b11, .int (nI nf), .ref b12, .ref b13, .int bd, .int (if (-5 : Int32) < 0 then (-5 : Int32) else 0), .int fa, .ref b14, .ref b15, .ref b16]) := by rw [eM3]; exact mUp_self _ _ _
          have hk : kept (nol y b1 b2 b3 b4 b5 b6 b7 b8 b9 b10 b11 b12 b13 b14 b15 b16) M M3 := (by rw [eM3]; exact hk.up (nol_in 0 rfl))
          rw [if_pos (show (-5 : Int32) < 0 by decide)] at g_y
          exact m_iret hx hb hr hlocks hM hS (Nat.le_refl _) (Nat.le_refl _) dX10_copy_58 (by have hs : sCopy bk rw fr i to j k = -5 := hs5; refine ⟨(by show _ = (if sCopy bk rw fr i to j k = 0 then 1 else sCopy bk rw fr i to j k); rw [hs]; rfl), ?_, hk⟩; show mR E _ y b1 b2 b3 b4 b5 b6 b7 b8 b9 b10 b11 b12 b13 b14 b15 b16 (nn, ins, nf, fn, bk, (if sCopy bk rw fr i to j k = 0 then _ else rw), bd, sCopy bk rw fr i to j k, c2, c3, c4); rw [hs]; rw [if_neg (by decide)]; exact ⟨_, _, _, _, _, _, _, _, _, _, _, _, _, _, _, _, _, ⟨g_y, g_b1, g_b2, g_b3, g_b4, g_b5, g_b6, g_b7, g_b8, g_b9, g_b10, g_b11, g_b12, g_b13, g_b14, g_b15, g_b16⟩, hB, hT, hR, hN, hF, hc2, hc3, hc4⟩)
        · skip
          have hlv2 : live nn ins bk w2 := Or.inl ⟨jb2, hjb2, hbk2⟩
          rcases hrw2 : rw w2 with ⟨lane2, n02, f02⟩
          obtain ⟨hLn2, hSz2, hSm2⟩ := hR w2 hlv2 _ _ _ hrw2
          have hw242 := hv24 w2 hlv2
          obtain ⟨hn402, hlane2, hvo2⟩ := hvR w2 hlv2 _ _ _ hrw2
          refine lv_if_ge (tgt := 59) hx hb dX10_copy_49 (by decide) (fun _ => ?_) (fun h9 => absurd ((nI_leI (a := 0) (by decide) (by omega)).mpr (Nat.zero_le w2)) h9)
          rw [hbk2] at hl
          replace hl : lv_has ls 9 [(7, .int (nI w2)), (6, .int (nI w)), (0, .ref y), (1, .int fr), (2, .int i), (3, .int to), (4, .int j), (5, .int k)] := hl
          have hcs : sCopy bk rw fr i to j k = (if lane = lane2 then (if spn n0 i k ∧ spn n02 j k then 0 else -7) else -9) := (by have := sC_s (bk := bk) (rw := rw) (r := w) (q := w2) (fr := fr) (to := to) (i := i) (j := j) (k := k) ⟨c_7, c_17⟩ (by rw [hjbc]; exact hbk) (by rw [hjbc2]; exact hbk2); rw [hrw, hrw2] at this; exact this)
          refine lv_aload_n hx hb dX10_copy_59 rfl (lv_at hl 2 rfl) ?_
          refine m_get (ci := 8) (v := .ref b3) (C := RX10) (T := TX10) (N := 21) hx hb hts in_X10_copy_X10 hown hE hM g_y rfl 2 (by decide) (hts (.fieldLink RX10 16 "CallWays2Model" "laneOf" "[I") (by decide +kernel)) (fun _ h9 => h9) rfl dX10_copy_60 ?_
          refine lv_iload hx hb dX10_copy_63 (lv_at hl 1 rfl) ?_
          refine m_iald hx hb hE hM g_b3 (vp_in_nI hw24 (by decide)) dX10_copy_65 ?_
          rw [show LN (nI w).toNatClampNeg = lane from by rw [nI_clamp (by omega), hLn]]
          refine lv_aload_n hx hb dX10_copy_66 rfl (lv_at hl 2 rfl) ?_
          refine m_get (ci := 8) (v := .ref b3) (C := RX10) (T := TX10) (N := 21) hx hb hts in_X10_copy_X10 hown hE hM g_y rfl 2 (by decide) (hts (.fieldLink RX10 16 "CallWays2Model" "laneOf" "[I") (by decide +kernel)) (fun _ h9 => h9) rfl dX10_copy_67 ?_
          refine lv_iload hx hb dX10_copy_70 (lv_at hl 0 rfl) ?_
          refine m_iald hx hb hE hM g_b3 (vp_in_nI hw242 (by decide)) dX10_copy_72 ?_
          rw [show LN (nI w2).toNatClampNeg = lane2 from by rw [nI_clamp (by omega), hLn2]]
          refine lv_icmp_eq (tgt := 83) hx hb dX10_copy_73 (by decide) (fun c_73 => ?_) (fun c_73 => ?_)
          · skip
            refine lv_iload_n hx hb dX10_copy_83 rfl (lv_at hl 4 rfl) ?_
            refine lv_if_lt (tgt := 134) hx hb dX10_copy_84 (by decide) (fun c_84 => ?_) (fun c_84 => ?_)
            · skip
              have hsp : ¬ (spn n0 i k ∧ spn n02 j k) := fun q => q.1.1 c_84
              refine lv_aload_n hx hb dX10_copy_134 rfl (lv_at hl 2 rfl) ?_
              refine lv_bipush (v := -7) hx hb dX10_copy_135 (by decide) ?_
              refine m_calli (va_runV (As := [.int (-7)]) (rest := []) ⟨hx, hb, hml, hown, hts⟩ (c_X10_says l E M H.size y b1 b2 b3 b4 b5 b6 b7 b8 b9 b10 b11 b12 b13 b14 b15 b16 (nI nn) (nI nf) bd st fa (-7 : Int32) g_y) (cwV 1 hts gX10_copy_X10_says rfl rfl rfl (by decide +kernel) ⟨Nat.le_of_ble_eq_true rfl, Nat.le_of_ble_eq_true rfl⟩) (m_preV hE hM g_y rfl) rfl rfl hl.1 rfl (lv_room (Nat.le_of_ble_eq_true rfl)) dX10_copy_137 ⟨Nat.le_of_ble_eq_true rfl, Nat.le_of_ble_eq_true rfl⟩) hM hS hA (fun r2 M4 H locs hw hM hS => ?_)
              obtain ⟨e_r2, eM4⟩ := hw
              subst e_r2
              have g_b1_ : M4 b1 = some (mI E 10 B) := by rw [eM4]; exact mUp_at (nd_ne hnd 1 0 rfl rfl (by decide)) g_b1
              have g_b2_ : M4 b2 = some (mI E 12 T) := by rw [eM4]; exact mUp_at (nd_ne hnd 2 0 rfl rfl (by decide)) g_b2
              have g_b3_ : M4 b3 = some (mI E 24 LN) := by rw [eM4]; exact mUp_at (nd_ne hnd 3 0 rfl rfl (by decide)) g_b3
              have g_b4_ : M4 b4 = some (mI E 24 SZ) := by rw [eM4]; exact mUp_at (nd_ne hnd 4 0 rfl rfl (by decide)) g_b4
              have g_b5_ : M4 b5 = some (mJ E 960 SM) := by rw [eM4]; exact mUp_at (nd_ne hnd 5 0 rfl rfl (by decide)) g_b5
              have g_b6_ : M4 b6 = some (mI E 12 SO) := by rw [eM4]; exact mUp_at (nd_ne hnd 6 0 rfl rfl (by decide)) g_b6
              have g_b7_ : M4 b7 = some (mI E 48 KN) := by rw [eM4]; exact mUp_at (nd_ne hnd 7 0 rfl rfl (by decide)) g_b7
              have g_b8_ : M4 b8 = some (mI E 12 PI) := by rw [eM4]; exact mUp_at (nd_ne hnd 8 0 rfl rfl (by decide)) g_b8
              have g_b9_ : M4 b9 = some (mZ E 12 ON) := by rw [eM4]; exact mUp_at (nd_ne hnd 9 0 rfl rfl (by decide)) g_b9
              have g_b10_ : M4 b10 = some (mI E 12 PH) := by rw [eM4]; exact mUp_at (nd_ne hnd 10 0 rfl rfl (by decide)) g_b10
              have g_b11_ : M4 b11 = some (mDb E 12 LE) := by rw [eM4]; exact mUp_at (nd_ne hnd 11 0 rfl rfl (by decide)) g_b11
              have g_b12_ : M4 b12 = some (mI E 8 KD) := by rw [eM4]; exact mUp_at (nd_ne hnd 12 0 rfl rfl (by decide)) g_b12
              have g_b13_ : M4 b13 = some (mI E 8 NM) := by rw [eM4]; exact mUp_at (nd_ne hnd 13 0 rfl rfl (by decide)) g_b13
              have g_b14_ : M4 b14 = some (mI E 3 CT) := by rw [eM4]; exact mUp_at (nd_ne hnd 14 0 rfl rfl (by decide)) g_b14
              have g_b15_ : M4 b15 = some (mDb E 40 CM) := by rw [eM4]; exact mUp_at (nd_ne hnd 15 0 rfl rfl (by decide)) g_b15
              have g_b16_ : M4 b16 = some (mJ E 40 MV) := by rw [eM4]; exact mUp_at (nd_ne hnd 16 0 rfl rfl (by decide)) g_b16
              have g_b1 := g_b1_
              have g_b2 := g_b2_
              have g_b3 := g_b3_
              have g_b4 := g_b4_
              have g_b5 := g_b5_
              have g_b6 := g_b6_
              have g_b7 := g_b7_
              have g_b8 := g_b8_
              have g_b9 := g_b9_
              have g_b10 := g_b10_
              have g_b11 := g_b11_
              have g_b12 := g_b12_
              have g_b13 := g_b13_
              have g_b14 := g_b14_
              have g_b15 := g_b15_
              have g_b16 := g_b16_
              have g_y : M4 y = some (mO 8 [.ref b1, .ref b2, .ref b3, .ref b4, .ref b5, .int (nI nn), .ref b6, .ref b7, .ref b8, .ref b9, .ref b10, .ref b11, .int (nI nf), .ref b12, .ref b13, .int bd, .int (if (-7 : Int32) < 0 then (-7 : Int32) else 0), .int fa, .ref b14, .ref b15, .ref b16]) := by rw [eM4]; exact mUp_self _ _ _
              have hk : kept (nol y b1 b2 b3 b4 b5 b6 b7 b8 b9 b10 b11 b12 b13 b14 b15 b16) M M4 := (by rw [eM4]; exact hk.up (nol_in 0 rfl))
              rw [if_pos (show (-7 : Int32) < 0 by decide)] at g_y
              exact m_iret hx hb hr hlocks hM hS (Nat.le_refl _) (Nat.le_refl _) dX10_copy_140 (by have hs : sCopy bk rw fr i to j k = -7 := (by rw [hcs, if_pos c_73, if_neg hsp]); refine ⟨(by show _ = (if sCopy bk rw fr i to j k = 0 then 1 else sCopy bk rw fr i to j k); rw [hs]; rfl), ?_, hk⟩; show mR E _ y b1 b2 b3 b4 b5 b6 b7 b8 b9 b10 b11 b12 b13 b14 b15 b16 (nn, ins, nf, fn, bk, (if sCopy bk rw fr i to j k = 0 then _ else rw), bd, sCopy bk rw fr i to j k, c2, c3, c4); rw [hs]; rw [if_neg (by decide)]; exact ⟨_, _, _, _, _, _, _, _, _, _, _, _, _, _, _, _, _, ⟨g_y, g_b1, g_b2, g_b3, g_b4, g_b5, g_b6, g_b7, g_b8, g_b9, g_b10, g_b11, g_b12, g_b13, g_b14, g_b15, g_b16⟩, hB, hT, hR, hN, hF, hc2, hc3, hc4⟩)
            · skip
              obtain ⟨ia, hia, eia⟩ := nI_of c_84
              refine lv_iload hx hb dX10_copy_87 (lv_at hl 6 rfl) ?_
              refine lv_if_lt (tgt := 134) hx hb dX10_copy_89 (by decide) (fun c_89 => ?_) (fun c_89 => ?_)
              · skip
                have hsp : ¬ (spn n0 i k ∧ spn n02 j k) := fun q => q.2.1 c_89
                refine lv_aload_n hx hb dX10_copy_134 rfl (lv_at hl 2 rfl) ?_
                refine lv_bipush (v := -7) hx hb dX10_copy_135 (by decide) ?_
                refine m_calli (va_runV (As := [.int (-7)]) (rest := []) ⟨hx, hb, hml, hown, hts⟩ (c_X10_says l E M H.size y b1 b2 b3 b4 b5 b6 b7 b8 b9 b10 b11 b12 b13 b14 b15 b16 (nI nn) (nI nf) bd st fa (-7 : Int32) g_y) (cwV 1 hts gX10_copy_X10_says rfl rfl rfl (by decide +kernel) ⟨Nat.le_of_ble_eq_true rfl, Nat.le_of_ble_eq_true rfl⟩) (m_preV hE hM g_y rfl) rfl rfl hl.1 rfl (lv_room (Nat.le_of_ble_eq_true rfl)) dX10_copy_137 ⟨Nat.le_of_ble_eq_true rfl, Nat.le_of_ble_eq_true rfl⟩) hM hS hA (fun r2 M5 H locs hw hM hS => ?_)
                obtain ⟨e_r2, eM5⟩ := hw
                subst e_r2
                have g_b1_ : M5 b1 = some (mI E 10 B) := by rw [eM5]; exact mUp_at (nd_ne hnd 1 0 rfl rfl (by decide)) g_b1
                have g_b2_ : M5 b2 = some (mI E 12 T) := by rw [eM5]; exact mUp_at (nd_ne hnd 2 0 rfl rfl (by decide)) g_b2
                have g_b3_ : M5 b3 = some (mI E 24 LN) := by rw [eM5]; exact mUp_at (nd_ne hnd 3 0 rfl rfl (by decide)) g_b3
                have g_b4_ : M5 b4 = some (mI E 24 SZ) := by rw [eM5]; exact mUp_at (nd_ne hnd 4 0 rfl rfl (by decide)) g_b4
                have g_b5_ : M5 b5 = some (mJ E 960 SM) := by rw [eM5]; exact mUp_at (nd_ne hnd 5 0 rfl rfl (by decide)) g_b5
                have g_b6_ : M5 b6 = some (mI E 12 SO) := by rw [eM5]; exact mUp_at (nd_ne hnd 6 0 rfl rfl (by decide)) g_b6
                have g_b7_ : M5 b7 = some (mI E 48 KN) := by rw [eM5]; exact mUp_at (nd_ne hnd 7 0 rfl rfl (by decide)) g_b7
                have g_b8_ : M5 b8 = some (mI E 12 PI) := by rw [eM5]; exact mUp_at (nd_ne hnd 8 0 rfl rfl (by decide)) g_b8
                have g_b9_ : M5 b9 = some (mZ E 12 ON) := by rw [eM5]; exact mUp_at (nd_ne hnd 9 0 rfl rfl (by decide)) g_b9
                have g_b10_ : M5 b10 = some (mI E 12 PH) := by rw [eM5]; exact mUp_at (nd_ne hnd 10 0 rfl rfl (by decide)) g_b10
                have g_b11_ : M5 b11 = some (mDb E 12 LE) := by rw [eM5]; exact mUp_at (nd_ne hnd 11 0 rfl rfl (by decide)) g_b11
                have g_b12_ : M5 b12 = some (mI E 8 KD) := by rw [eM5]; exact mUp_at (nd_ne hnd 12 0 rfl rfl (by decide)) g_b12
                have g_b13_ : M5 b13 = some (mI E 8 NM) := by rw [eM5]; exact mUp_at (nd_ne hnd 13 0 rfl rfl (by decide)) g_b13
                have g_b14_ : M5 b14 = some (mI E 3 CT) := by rw [eM5]; exact mUp_at (nd_ne hnd 14 0 rfl rfl (by decide)) g_b14
                have g_b15_ : M5 b15 = some (mDb E 40 CM) := by rw [eM5]; exact mUp_at (nd_ne hnd 15 0 rfl rfl (by decide)) g_b15
                have g_b16_ : M5 b16 = some (mJ E 40 MV) := by rw [eM5]; exact mUp_at (nd_ne hnd 16 0 rfl rfl (by decide)) g_b16
                have g_b1 := g_b1_
                have g_b2 := g_b2_
                have g_b3 := g_b3_
                have g_b4 := g_b4_
                have g_b5 := g_b5_
                have g_b6 := g_b6_
                have g_b7 := g_b7_
                have g_b8 := g_b8_
                have g_b9 := g_b9_
                have g_b10 := g_b10_
                have g_b11 := g_b11_
                have g_b12 := g_b12_
                have g_b13 := g_b13_
                have g_b14 := g_b14_
                have g_b15 := g_b15_
                have g_b16 := g_b16_
                have g_y : M5 y = some (mO 8 [.ref b1, .ref b2, .ref b3, .ref b4, .ref b5, .int (nI nn), .ref b6, .ref b7, .ref b8, .ref b9, .ref b10, .ref b11, .int (nI nf), .ref b12, .ref b13, .int bd, .int (if (-7 : Int32) < 0 then (-7 : Int32) else 0), .int fa, .ref b14, .ref b15, .ref b16]) := by rw [eM5]; exact mUp_self _ _ _
                have hk : kept (nol y b1 b2 b3 b4 b5 b6 b7 b8 b9 b10 b11 b12 b13 b14 b15 b16) M M5 := (by rw [eM5]; exact hk.up (nol_in 0 rfl))
                rw [if_pos (show (-7 : Int32) < 0 by decide)] at g_y
                exact m_iret hx hb hr hlocks hM hS (Nat.le_refl _) (Nat.le_refl _) dX10_copy_140 (by have hs : sCopy bk rw fr i to j k = -7 := (by rw [hcs, if_pos c_73, if_neg hsp]); refine ⟨(by show _ = (if sCopy bk rw fr i to j k = 0 then 1 else sCopy bk rw fr i to j k); rw [hs]; rfl), ?_, hk⟩; show mR E _ y b1 b2 b3 b4 b5 b6 b7 b8 b9 b10 b11 b12 b13 b14 b15 b16 (nn, ins, nf, fn, bk, (if sCopy bk rw fr i to j k = 0 then _ else rw), bd, sCopy bk rw fr i to j k, c2, c3, c4); rw [hs]; rw [if_neg (by decide)]; exact ⟨_, _, _, _, _, _, _, _, _, _, _, _, _, _, _, _, _, ⟨g_y, g_b1, g_b2, g_b3, g_b4, g_b5, g_b6, g_b7, g_b8, g_b9, g_b10, g_b11, g_b12, g_b13, g_b14, g_b15, g_b16⟩, hB, hT, hR, hN, hF, hc2, hc3, hc4⟩)
              · skip
                obtain ⟨jc, hjc, ejc⟩ := nI_of c_89
                refine lv_iload hx hb dX10_copy_92 (lv_at hl 7 rfl) ?_
                refine lv_if_lt (tgt := 134) hx hb dX10_copy_94 (by decide) (fun c_94 => ?_) (fun c_94 => ?_)
                · skip
                  have hsp : ¬ (spn n0 i k ∧ spn n02 j k) := fun q => q.1.2.1 c_94
                  refine lv_aload_n hx hb dX10_copy_134 rfl (lv_at hl 2 rfl) ?_
                  refine lv_bipush (v := -7) hx hb dX10_copy_135 (by decide) ?_
                  refine m_calli (va_runV (As := [.int (-7)]) (rest := []) ⟨hx, hb, hml, hown, hts⟩ (c_X10_says l E M H.size y b1 b2 b3 b4 b5 b6 b7 b8 b9 b10 b11 b12 b13 b14 b15 b16 (nI nn) (nI nf) bd st fa (-7 : Int32) g_y) (cwV 1 hts gX10_copy_X10_says rfl rfl rfl (by decide +kernel) ⟨Nat.le_of_ble_eq_true rfl, Nat.le_of_ble_eq_true rfl⟩) (m_preV hE hM g_y rfl) rfl rfl hl.1 rfl (lv_room (Nat.le_of_ble_eq_true rfl)) dX10_copy_137 ⟨Nat.le_of_ble_eq_true rfl, Nat.le_of_ble_eq_true rfl⟩) hM hS hA (fun r2 M6 H locs hw hM hS => ?_)
                  obtain ⟨e_r2, eM6⟩ := hw
                  subst e_r2
                  have g_b1_ : M6 b1 = some (mI E 10 B) := by rw [eM6]; exact mUp_at (nd_ne hnd 1 0 rfl rfl (by decide)) g_b1
                  have g_b2_ : M6 b2 = some (mI E 12 T) := by rw [eM6]; exact mUp_at (nd_ne hnd 2 0 rfl rfl (by decide)) g_b2
                  have g_b3_ : M6 b3 = some (mI E 24 LN) := by rw [eM6]; exact mUp_at (nd_ne hnd 3 0 rfl rfl (by decide)) g_b3
                  have g_b4_ : M6 b4 = some (mI E 24 SZ) := by rw [eM6]; exact mUp_at (nd_ne hnd 4 0 rfl rfl (by decide)) g_b4
                  have g_b5_ : M6 b5 = some (mJ E 960 SM) := by rw [eM6]; exact mUp_at (nd_ne hnd 5 0 rfl rfl (by decide)) g_b5
                  have g_b6_ : M6 b6 = some (mI E 12 SO) := by rw [eM6]; exact mUp_at (nd_ne hnd 6 0 rfl rfl (by decide)) g_b6
                  have g_b7_ : M6 b7 = some (mI E 48 KN) := by rw [eM6]; exact mUp_at (nd_ne hnd 7 0 rfl rfl (by decide)) g_b7
                  have g_b8_ : M6 b8 = some (mI E 12 PI) := by rw [eM6]; exact mUp_at (nd_ne hnd 8 0 rfl rfl (by decide)) g_b8
                  have g_b9_ : M6 b9 = some (mZ E 12 ON) := by rw [eM6]; exact mUp_at (nd_ne hnd 9 0 rfl rfl (by decide)) g_b9
                  have g_b10_ : M6 b10 = some (mI E 12 PH) := by rw [eM6]; exact mUp_at (nd_ne hnd 10 0 rfl rfl (by decide)) g_b10
                  have g_b11_ : M6 b11 = some (mDb E 12 LE) := by rw [eM6]; exact mUp_at (nd_ne hnd 11 0 rfl rfl (by decide)) g_b11
                  have g_b12_ : M6 b12 = some (mI E 8 KD) := by rw [eM6]; exact mUp_at (nd_ne hnd 12 0 rfl rfl (by decide)) g_b12
                  have g_b13_ : M6 b13 = some (mI E 8 NM) := by rw [eM6]; exact mUp_at (nd_ne hnd 13 0 rfl rfl (by decide)) g_b13
                  have g_b14_ : M6 b14 = some (mI E 3 CT) := by rw [eM6]; exact mUp_at (nd_ne hnd 14 0 rfl rfl (by decide)) g_b14
                  have g_b15_ : M6 b15 = some (mDb E 40 CM) := by rw [eM6]; exact mUp_at (nd_ne hnd 15 0 rfl rfl (by decide)) g_b15
                  have g_b16_ : M6 b16 = some (mJ E 40 MV) := by rw [eM6]; exact mUp_at (nd_ne hnd 16 0 rfl rfl (by decide)) g_b16
                  have g_b1 := g_b1_
                  have g_b2 := g_b2_
                  have g_b3 := g_b3_
                  have g_b4 := g_b4_
                  have g_b5 := g_b5_
                  have g_b6 := g_b6_
                  have g_b7 := g_b7_
                  have g_b8 := g_b8_
                  have g_b9 := g_b9_
                  have g_b10 := g_b10_
                  have g_b11 := g_b11_
                  have g_b12 := g_b12_
                  have g_b13 := g_b13_
                  have g_b14 := g_b14_
                  have g_b15 := g_b15_
                  have g_b16 := g_b16_
                  have g_y : M6 y = some (mO 8 [.ref b1, .ref b2, .ref b3, .ref b4, .ref b5, .int (nI nn), .ref b6, .ref b7, .ref b8, .ref b9, .ref b10, .ref b11, .int (nI nf), .ref b12, .ref b13, .int bd, .int (if (-7 : Int32) < 0 then (-7 : Int32) else 0), .int fa, .ref b14, .ref b15, .ref b16]) := by rw [eM6]; exact mUp_self _ _ _
                  have hk : kept (nol y b1 b2 b3 b4 b5 b6 b7 b8 b9 b10 b11 b12 b13 b14 b15 b16) M M6 := (by rw [eM6]; exact hk.up (nol_in 0 rfl))
                  rw [if_pos (show (-7 : Int32) < 0 by decide)] at g_y
                  exact m_iret hx hb hr hlocks hM hS (Nat.le_refl _) (Nat.le_refl _) dX10_copy_140 (by have hs : sCopy bk rw fr i to j k = -7 := (by rw [hcs, if_pos c_73, if_neg hsp]); refine ⟨(by show _ = (if sCopy bk rw fr i to j k = 0 then 1 else sCopy bk rw fr i to j k); rw [hs]; rfl), ?_, hk⟩; show mR E _ y b1 b2 b3 b4 b5 b6 b7 b8 b9 b10 b11 b12 b13 b14 b15 b16 (nn, ins, nf, fn, bk, (if sCopy bk rw fr i to j k = 0 then _ else rw), bd, sCopy bk rw fr i to j k, c2, c3, c4); rw [hs]; rw [if_neg (by decide)]; exact ⟨_, _, _, _, _, _, _, _, _, _, _, _, _, _, _, _, _, ⟨g_y, g_b1, g_b2, g_b3, g_b4, g_b5, g_b6, g_b7, g_b8, g_b9, g_b10, g_b11, g_b12, g_b13, g_b14, g_b15, g_b16⟩, hB, hT, hR, hN, hF, hc2, hc3, hc4⟩)
                · skip
                  obtain ⟨kn, hkn, ekn⟩ := nI_of c_94
                  refine lv_iload_n hx hb dX10_copy_97 rfl (lv_at hl 4 rfl) ?_
                  refine lv_i2l hx hb dX10_copy_98 rfl ?_
                  refine lv_iload hx hb dX10_copy_99 (lv_at hl 7 rfl) ?_
                  refine lv_i2l hx hb dX10_copy_101 rfl ?_
                  refine lv_ladd hx hb dX10_copy_102 ?_
                  refine lv_aload_n hx hb dX10_copy_103 rfl (lv_at hl 2 rfl) ?_
                  refine m_get (ci := 8) (v := .ref b4) (C := RX10) (T := TX10) (N := 21) hx hb hts in_X10_copy_X10 hown hE hM g_y rfl 3 (by decide) (hts (.fieldLink RX10 19 "CallWays2Model" "sizeOf" "[I") (by decide +kernel)) (fun _ h9 => h9) rfl dX10_copy_104 ?_
                  refine lv_iload hx hb dX10_copy_107 (lv_at hl 1 rfl) ?_
                  refine m_iald hx hb hE hM g_b4 (vp_in_nI hw24 (by decide)) dX10_copy_109 ?_
                  rw [show SZ (nI w).toNatClampNeg = nI n0 from by rw [nI_clamp (by omega), hSz]]
                  refine lv_i2l hx hb dX10_copy_110 rfl ?_
                  refine W.lcmp hx hb dX10_copy_111 ?_
                  refine lv_if_gt (tgt := 134) hx hb dX10_copy_112 (by decide) (fun c_112 => ?_) (fun c_112 => ?_)
                  · skip
                    rw [eia, ekn, lsum (by omega) hia hkn] at c_112
                    have hsp : ¬ (spn n0 i k ∧ spn n02 j k) := fun q => c_112 ((spn_iff (by omega) hia hkn).mp (by rw [← eia, ← ekn]; exact q.1))
                    refine lv_aload_n hx hb dX10_copy_134 rfl (lv_at hl 2 rfl) ?_
                    refine lv_bipush (v := -7) hx hb dX10_copy_135 (by decide) ?_
                    refine m_calli (va_runV (As := [.int (-7)]) (rest := []) ⟨hx, hb, hml, hown, hts⟩ (c_X10_says l E M H.size y b1 b2 b3 b4 b5 b6 b7 b8 b9 b10 b11 b12 b13 b14 b15 b16 (nI nn) (nI nf) bd st fa (-7 : Int32) g_y) (cwV 1 hts gX10_copy_X10_says rfl rfl rfl (by decide +kernel) ⟨Nat.le_of_ble_eq_true rfl, Nat.le_of_ble_eq_true rfl⟩) (m_preV hE hM g_y rfl) rfl rfl hl.1 rfl (lv_room (Nat.le_of_ble_eq_true rfl)) dX10_copy_137 ⟨Nat.le_of_ble_eq_true rfl, Nat.le_of_ble_eq_true rfl⟩) hM hS hA (fun r2 M7 H locs hw hM hS => ?_)
                    obtain ⟨e_r2, eM7⟩ := hw
                    subst e_r2
                    have g_b1_ : M7 b1 = some (mI E 10 B) := by rw [eM7]; exact mUp_at (nd_ne hnd 1 0 rfl rfl (by decide)) g_b1
                    have g_b2_ : M7 b2 = some (mI E 12 T) := by rw [eM7]; exact mUp_at (nd_ne hnd 2 0 rfl rfl (by decide)) g_b2
                    have g_b3_ : M7 b3 = some (mI E 24 LN) := by rw [eM7]; exact mUp_at (nd_ne hnd 3 0 rfl rfl (by decide)) g_b3
                    have g_b4_ : M7 b4 = some (mI E 24 SZ) := by rw [eM7]; exact mUp_at (nd_ne hnd 4 0 rfl rfl (by decide)) g_b4
                    have g_b5_ : M7 b5 = some (mJ E 960 SM) := by rw [eM7]; exact mUp_at (nd_ne hnd 5 0 rfl rfl (by decide)) g_b5
                    have g_b6_ : M7 b6 = some (mI E 12 SO) := by rw [eM7]; exact mUp_at (nd_ne hnd 6 0 rfl rfl (by decide)) g_b6
                    have g_b7_ : M7 b7 = some (mI E 48 KN) := by rw [eM7]; exact mUp_at (nd_ne hnd 7 0 rfl rfl (by decide)) g_b7
                    have g_b8_ : M7 b8 = some (mI E 12 PI) := by rw [eM7]; exact mUp_at (nd_ne hnd 8 0 rfl rfl (by decide)) g_b8
                    have g_b9_ : M7 b9 = some (mZ E 12 ON) := by rw [eM7]; exact mUp_at (nd_ne hnd 9 0 rfl rfl (by decide)) g_b9
                    have g_b10_ : M7 b10 = some (mI E 12 PH) := by rw [eM7]; exact mUp_at (nd_ne hnd 10 0 rfl rfl (by decide)) g_b10
                    have g_b11_ : M7 b11 = some (mDb E 12 LE) := by rw [eM7]; exact mUp_at (nd_ne hnd 11 0 rfl rfl (by decide)) g_b11
                    have g_b12_ : M7 b12 = some (mI E 8 KD) := by rw [eM7]; exact mUp_at (nd_ne hnd 12 0 rfl rfl (by decide)) g_b12
                    have g_b13_ : M7 b13 = some (mI E 8 NM) := by rw [eM7]; exact mUp_at (nd_ne hnd 13 0 rfl rfl (by decide)) g_b13
                    have g_b14_ : M7 b14 = some (mI E 3 CT) := by rw [eM7]; exact mUp_at (nd_ne hnd 14 0 rfl rfl (by decide)) g_b14
                    have g_b15_ : M7 b15 = some (mDb E 40 CM) := by rw [eM7]; exact mUp_at (nd_ne hnd 15 0 rfl rfl (by decide)) g_b15
                    have g_b16_ : M7 b16 = some (mJ E 40 MV) := by rw [eM7]; exact mUp_at (nd_ne hnd 16 0 rfl rfl (by decide)) g_b16
                    have g_b1 := g_b1_
                    have g_b2 := g_b2_
                    have g_b3 := g_b3_
                    have g_b4 := g_b4_
                    have g_b5 := g_b5_
                    have g_b6 := g_b6_
                    have g_b7 := g_b7_
                    have g_b8 := g_b8_
                    have g_b9 := g_b9_
                    have g_b10 := g_b10_
                    have g_b11 := g_b11_
                    have g_b12 := g_b12_
                    have g_b13 := g_b13_
                    have g_b14 := g_b14_
                    have g_b15 := g_b15_
                    have g_b16 := g_b16_
                    have g_y : M7 y = some (mO 8 [.ref b1, .ref b2, .ref b3, .ref b4, .ref b5, .int (nI nn), .ref b6, .ref b7, .ref b8, .ref b9, .ref b10, .ref b11, .int (nI nf), .ref b12, .ref b13, .int bd, .int (if (-7 : Int32) < 0 then (-7 : Int32) else 0), .int fa, .ref b14, .ref b15, .ref b16]) := by rw [eM7]; exact mUp_self _ _ _
                    have hk : kept (nol y b1 b2 b3 b4 b5 b6 b7 b8 b9 b10 b11 b12 b13 b14 b15 b16) M M7 := (by rw [eM7]; exact hk.up (nol_in 0 rfl))
                    rw [if_pos (show (-7 : Int32) < 0 by decide)] at g_y
                    exact m_iret hx hb hr hlocks hM hS (Nat.le_refl _) (Nat.le_refl _) dX10_copy_140 (by have hs : sCopy bk rw fr i to j k = -7 := (by rw [hcs, if_pos c_73, if_neg hsp]); refine ⟨(by show _ = (if sCopy bk rw fr i to j k = 0 then 1 else sCopy bk rw fr i to j k); rw [hs]; rfl), ?_, hk⟩; show mR E _ y b1 b2 b3 b4 b5 b6 b7 b8 b9 b10 b11 b12 b13 b14 b15 b16 (nn, ins, nf, fn, bk, (if sCopy bk rw fr i to j k = 0 then _ else rw), bd, sCopy bk rw fr i to j k, c2, c3, c4); rw [hs]; rw [if_neg (by decide)]; exact ⟨_, _, _, _, _, _, _, _, _, _, _, _, _, _, _, _, _, ⟨g_y, g_b1, g_b2, g_b3, g_b4, g_b5, g_b6, g_b7, g_b8, g_b9, g_b10, g_b11, g_b12, g_b13, g_b14, g_b15, g_b16⟩, hB, hT, hR, hN, hF, hc2, hc3, hc4⟩)
                  · skip
                    rw [eia, ekn, lsum (by omega) hia hkn, Classical.not_not] at c_112
                    refine lv_iload hx hb dX10_copy_115 (lv_at hl 6 rfl) ?_
                    refine lv_i2l hx hb dX10_copy_117 rfl ?_
                    refine lv_iload hx hb dX10_copy_118 (lv_at hl 7 rfl) ?_
                    refine lv_i2l hx hb dX10_copy_120 rfl ?_
                    refine lv_ladd hx hb dX10_copy_121 ?_
                    refine lv_aload_n hx hb dX10_copy_122 rfl (lv_at hl 2 rfl) ?_
                    refine m_get (ci := 8) (v := .ref b4) (C := RX10) (T := TX10) (N := 21) hx hb hts in_X10_copy_X10 hown hE hM g_y rfl 3 (by decide) (hts (.fieldLink RX10 19 "CallWays2Model" "sizeOf" "[I") (by decide +kernel)) (fun _ h9 => h9) rfl dX10_copy_123 ?_
                    refine lv_iload hx hb dX10_copy_126 (lv_at hl 0 rfl) ?_
                    refine m_iald hx hb hE hM g_b4 (vp_in_nI hw242 (by decide)) dX10_copy_128 ?_
                    rw [show SZ (nI w2).toNatClampNeg = nI n02 from by rw [nI_clamp (by omega), hSz2]]
                    refine lv_i2l hx hb dX10_copy_129 rfl ?_
                    refine W.lcmp hx hb dX10_copy_130 ?_
                    refine lv_if_le (tgt := 141) hx hb dX10_copy_131 (by decide) (fun c_131 => ?_) (fun c_131 => ?_)
                    · skip
                      replace c_131 := Int32.not_lt.mpr c_131
                      rw [ejc, ekn, lsum (by omega) hjc hkn, Classical.not_not] at c_131
                      have hlan : lane = lane2 := c_73
                      have hs0 : sCopy bk rw fr i to j k = 0 := (by rw [hcs, if_pos hlan, if_pos ⟨(by rw [eia, ekn]; exact (spn_iff (by omega) hia hkn).mpr c_112), (by rw [ejc, ekn]; exact (spn_iff (by omega) hjc hkn).mpr c_131)⟩])
                      subst eia
                      subst ejc
                      subst ekn
                      refine lv_iconst (v := 0) hx hb dX10_copy_141 (by decide) ?_
                      refine lv_istore (lv' := [(8, .int 0), (7, .int (nI w2)), (6, .int (nI w)), (0, .ref y), (1, .int fr), (2, .int (nI ia)), (3, .int to), (4, .int (nI jc)), (5, .int (nI kn))]) hx hb dX10_copy_142 hl (by decide) rfl (fun ls hl => ?_)
                      have loop2 : ∀ (n9 : Nat) (k9 : Nat) (MV9 : Nat → Int64) (Mi : mMem) (ls : Array Slot) (H : Heap) (locs : List Loc), k9 + n9 = kn → (∀ q, q < kn → MV9 q = SM (40 * w + (ia + q))) → Mi = mUp (mUp M b16 (mJ E 40 MV9)) b5 (mJ E 960 (va_cpy MV9 SM 0 (40 * w2 + jc) k9)) → mOK E.1 (mA M sz) Mi H → va_S (mA M sz) s.heap H locs → lv_has ls 9 [(8, .int (nI k9)), (7, .int (nI w2)), (6, .int (nI w)), (0, .ref y), (1, .int fr), (2, .int (nI ia)), (3, .int to), (4, .int (nI jc)), (5, .int (nI kn))] → W p l e ({ frames := 1, cells := 0, slots := 0, locals := 22 } : Room) s m #[.ref y, .int fr, .int (nI ia), .int to, .int (nI jc), .int (nI kn)] below meth c H locs (0) (0) (MQ below (mQi E M sz (fun r u => r = aCopy (nn, ins, nf, fn, bk, rw, bd, st, c2, c3, c4) fr (nI ia) to (nI jc) (nI kn) ∧ mR E u y b1 b2 b3 b4 b5 b6 b7 b8 b9 b10 b11 b12 b13 b14 b15 b16 (nCopy (nn, ins, nf, fn, bk, rw, bd, st, c2, c3, c4) fr (nI ia) to (nI jc) (nI kn)) ∧ kept (nol y b1 b2 b3 b4 b5 b6 b7 b8 b9 b10 b11 b12 b13 b14 b15 b16) M u)) #[.ref y, .int fr, .int (nI ia), .int to, .int (nI jc), .int (nI kn)] s (0) (0) (mA M sz)) (F0 m 182 ls []) := by
                        intro n9
                        induction n9 with
                        | zero =>
                          intro k9 MV9 Mi ls H locs hk9 hMV eMi hM hS hl
                          have hh_y : Mi y = some (mO 8 [.ref b1, .ref b2, .ref b3, .ref b4, .ref b5, .int (nI nn), .ref b6, .ref b7, .ref b8, .ref b9, .ref b10, .ref b11, .int (nI nf), .ref b12, .ref b13, .int bd, .int st, .int fa, .ref b14, .ref b15, .ref b16]) := by rw [eMi]; exact (mUp_at (nd_ne hnd 0 5 rfl rfl (by decide)) (mUp_at (nd_ne hnd 0 16 rfl rfl (by decide)) g_y))
                          have hh_b1 : Mi b1 = some (mI E 10 B) := by rw [eMi]; exact (mUp_at (nd_ne hnd 1 5 rfl rfl (by decide)) (mUp_at (nd_ne hnd 1 16 rfl rfl (by decide)) g_b1))
                          have hh_b2 : Mi b2 = some (mI E 12 T) := by rw [eMi]; exact (mUp_at (nd_ne hnd 2 5 rfl rfl (by decide)) (mUp_at (nd_ne hnd 2 16 rfl rfl (by decide)) g_b2))
                          have hh_b3 : Mi b3 = some (mI E 24 LN) := by rw [eMi]; exact (mUp_at (nd_ne hnd 3 5 rfl rfl (by decide)) (mUp_at (nd_ne hnd 3 16 rfl rfl (by decide)) g_b3))
                          have hh_b4 : Mi b4 = some (mI E 24 SZ) := by rw [eMi]; exact (mUp_at (nd_ne hnd 4 5 rfl rfl (by decide)) (mUp_at (nd_ne hnd 4 16 rfl rfl (by decide)) g_b4))
                          have hh_b6 : Mi b6 = some (mI E 12 SO) := by rw [eMi]; exact (mUp_at (nd_ne hnd 6 5 rfl rfl (by decide)) (mUp_at (nd_ne hnd 6 16 rfl rfl (by decide)) g_b6))
                          have hh_b7 : Mi b7 = some (mI E 48 KN) := by rw [eMi]; exact (mUp_at (nd_ne hnd 7 5 rfl rfl (by decide)) (mUp_at (nd_ne hnd 7 16 rfl rfl (by decide)) g_b7))
                          have hh_b8 : Mi b8 = some (mI E 12 PI) := by rw [eMi]; exact (mUp_at (nd_ne hnd 8 5 rfl rfl (by decide)) (mUp_at (nd_ne hnd 8 16 rfl rfl (by decide)) g_b8))
                          have hh_b9 : Mi b9 = some (mZ E 12 ON) := by rw [eMi]; exact (mUp_at (nd_ne hnd 9 5 rfl rfl (by decide)) (mUp_at (nd_ne hnd 9 16 rfl rfl (by decide)) g_b9))
                          have hh_b10 : Mi b10 = some (mI E 12 PH) := by rw [eMi]; exact (mUp_at (nd_ne hnd 10 5 rfl rfl (by decide)) (mUp_at (nd_ne hnd 10 16 rfl rfl (by decide)) g_b10))
                          have hh_b11 : Mi b11 = some (mDb E 12 LE) := by rw [eMi]; exact (mUp_at (nd_ne hnd 11 5 rfl rfl (by decide)) (mUp_at (nd_ne hnd 11 16 rfl rfl (by decide)) g_b11))
                          have hh_b12 : Mi b12 = some (mI E 8 KD) := by rw [eMi]; exact (mUp_at (nd_ne hnd 12 5 rfl rfl (by decide)) (mUp_at (nd_ne hnd 12 16 rfl rfl (by decide)) g_b12))
                          have hh_b13 : Mi b13 = some (mI E 8 NM) := by rw [eMi]; exact (mUp_at (nd_ne hnd 13 5 rfl rfl (by decide)) (mUp_at (nd_ne hnd 13 16 rfl rfl (by decide)) g_b13))
                          have hh_b14 : Mi b14 = some (mI E 3 CT) := by rw [eMi]; exact (mUp_at (nd_ne hnd 14 5 rfl rfl (by decide)) (mUp_at (nd_ne hnd 14 16 rfl rfl (by decide)) g_b14))
                          have hh_b15 : Mi b15 = some (mDb E 40 CM) := by rw [eMi]; exact (mUp_at (nd_ne hnd 15 5 rfl rfl (by decide)) (mUp_at (nd_ne hnd 15 16 rfl rfl (by decide)) g_b15))
                          have hh_b16 : Mi b16 = some (mJ E 40 MV9) := by rw [eMi]; exact (mUp_at (nd_ne hnd 16 5 rfl rfl (by decide)) (mUp_self _ _ _))
                          have hh_b5 : Mi b5 = some (mJ E 960 (va_cpy MV9 SM 0 (40 * w2 + jc) k9)) := by rw [eMi]; exact (mUp_self _ _ _)
                          have g_y := hh_y
                          have g_b1 := hh_b1
                          have g_b2 := hh_b2
                          have g_b3 := hh_b3
                          have g_b4 := hh_b4
                          have g_b5 := hh_b5
                          have g_b6 := hh_b6
                          have g_b7 := hh_b7
                          have g_b8 := hh_b8
                          have g_b9 := hh_b9
                          have g_b10 := hh_b10
                          have g_b11 := hh_b11
                          have g_b12 := hh_b12
                          have g_b13 := hh_b13
                          have g_b14 := hh_b14
                          have g_b15 := hh_b15
                          have g_b16 := hh_b16
                          have hk : kept (nol y b1 b2 b3 b4 b5 b6 b7 b8 b9 b10 b11 b12 b13 b14 b15 b16) M Mi := (by rw [eMi]; exact ((kept.rf.up (nol_in 16 rfl)).up (nol_in 5 rfl)))
                          refine lv_iload hx hb dX10_copy_182 (lv_at hl 0 rfl) ?_
                          refine lv_iload hx hb dX10_copy_184 (lv_at hl 8 rfl) ?_
                          refine lv_icmp_ge (tgt := 218) hx hb dX10_copy_186 (by decide) (fun _ => ?_) (fun h9 => False.elim (by revert h9; exact (fun h => h (nI_le (by omega) (by omega)))))
                          refine lv_aload_n hx hb dX10_copy_218 rfl (lv_at hl 3 rfl) ?_
                          refine lv_iconst (v := 1) hx hb dX10_copy_219 (by decide) ?_
                          refine m_calli (va_runV (As := [.int 1]) (rest := []) ⟨hx, hb, hml, hown, hts⟩ (c_X10_says l E Mi H.size y b1 b2 b3 b4 b5 b6 b7 b8 b9 b10 b11 b12 b13 b14 b15 b16 (nI nn) (nI nf) bd st fa (1 : Int32) g_y) (cwV 1 hts gX10_copy_X10_says rfl rfl rfl (by decide +kernel) ⟨Nat.le_of_ble_eq_true rfl, Nat.le_of_ble_eq_true rfl⟩) (m_preV hE hM g_y rfl) rfl rfl hl.1 rfl (lv_room (Nat.le_of_ble_eq_true rfl)) dX10_copy_220 ⟨Nat.le_of_ble_eq_true rfl, Nat.le_of_ble_eq_true rfl⟩) hM hS hA (fun r2 M8 H locs hw hM hS => ?_)
                          obtain ⟨e_r2, eM8⟩ := hw
                          subst e_r2
                          have g_b1_ : M8 b1 = some (mI E 10 B) := by rw [eM8]; exact mUp_at (nd_ne hnd 1 0 rfl rfl (by decide)) g_b1
                          have g_b2_ : M8 b2 = some (mI E 12 T) := by rw [eM8]; exact mUp_at (nd_ne hnd 2 0 rfl rfl (by decide)) g_b2
                          have g_b3_ : M8 b3 = some (mI E 24 LN) := by rw [eM8]; exact mUp_at (nd_ne hnd 3 0 rfl rfl (by decide)) g_b3
                          have g_b4_ : M8 b4 = some (mI E 24 SZ) := by rw [eM8]; exact mUp_at (nd_ne hnd 4 0 rfl rfl (by decide)) g_b4
                          have g_b5_ : M8 b5 = some (mJ E 960 (va_cpy MV9 SM 0 (40 * w2 + jc) k9)) := by rw [eM8]; exact mUp_at (nd_ne hnd 5 0 rfl rfl (by decide)) g_b5
                          have g_b6_ : M8 b6 = some (mI E 12 SO) := by rw [eM8]; exact mUp_at (nd_ne hnd 6 0 rfl rfl (by decide)) g_b6
                          have g_b7_ : M8 b7 = some (mI E 48 KN) := by rw [eM8]; exact mUp_at (nd_ne hnd 7 0 rfl rfl (by decide)) g_b7
                          have g_b8_ : M8 b8 = some (mI E 12 PI) := by rw [eM8]; exact mUp_at (nd_ne hnd 8 0 rfl rfl (by decide)) g_b8
                          have g_b9_ : M8 b9 = some (mZ E 12 ON) := by rw [eM8]; exact mUp_at (nd_ne hnd 9 0 rfl rfl (by decide)) g_b9
                          have g_b10_ : M8 b10 = some (mI E 12 PH) := by rw [eM8]; exact mUp_at (nd_ne hnd 10 0 rfl rfl (by decide)) g_b10
                          have g_b11_ : M8 b11 = some (mDb E 12 LE) := by rw [eM8]; exact mUp_at (nd_ne hnd 11 0 rfl rfl (by decide)) g_b11
                          have g_b12_ : M8 b12 = some (mI E 8 KD) := by rw [eM8]; exact mUp_at (nd_ne hnd 12 0 rfl rfl (by decide)) g_b12
                          have g_b13_ : M8 b13 = some (mI E 8 NM) := by rw [eM8]; exact mUp_at (nd_ne hnd 13 0 rfl rfl (by decide)) g_b13
                          have g_b14_ : M8 b14 = some (mI E 3 CT) := by rw [eM8]; exact mUp_at (nd_ne hnd 14 0 rfl rfl (by decide)) g_b14
                          have g_b15_ : M8 b15 = some (mDb E 40 CM) := by rw [eM8]; exact mUp_at (nd_ne hnd 15 0 rfl rfl (by decide)) g_b15
                          have g_b16_ : M8 b16 = some (mJ E 40 MV9) := by rw [eM8]; exact mUp_at (nd_ne hnd 16 0 rfl rfl (by decide)) g_b16
                          have g_b1 := g_b1_
                          have g_b2 := g_b2_
                          have g_b3 := g_b3_
                          have g_b4 := g_b4_
                          have g_b5 := g_b5_
                          have g_b6 := g_b6_
                          have g_b7 := g_b7_
                          have g_b8 := g_b8_
                          have g_b9 := g_b9_
                          have g_b10 := g_b10_
                          have g_b11 := g_b11_
                          have g_b12 := g_b12_
                          have g_b13 := g_b13_
                          have g_b14 := g_b14_
                          have g_b15 := g_b15_
                          have g_b16 := g_b16_
                          have g_y : M8 y = some (mO 8 [.ref b1, .ref b2, .ref b3, .ref b4, .ref b5, .int (nI nn), .ref b6, .ref b7, .ref b8, .ref b9, .ref b10, .ref b11, .int (nI nf), .ref b12, .ref b13, .int bd, .int (if (1 : Int32) < 0 then (1 : Int32) else 0), .int fa, .ref b14, .ref b15, .ref b16]) := by rw [eM8]; exact mUp_self _ _ _
                          have hk : kept (nol y b1 b2 b3 b4 b5 b6 b7 b8 b9 b10 b11 b12 b13 b14 b15 b16) M M8 := (by rw [eM8]; exact hk.up (nol_in 0 rfl))
                          rw [if_neg (show ¬ (1 : Int32) < 0 by decide)] at g_y
                          exact m_iret hx hb hr hlocks hM hS (Nat.le_refl _) (Nat.le_refl _) dX10_copy_223 (by have hs : sCopy bk rw fr (nI ia) to (nI jc) (nI kn) = 0 := hs0; refine ⟨(by show _ = (if sCopy bk rw fr (nI ia) to (nI jc) (nI kn) = 0 then 1 else _); rw [if_pos hs]), ?_, hk⟩; show mR E _ y b1 b2 b3 b4 b5 b6 b7 b8 b9 b10 b11 b12 b13 b14 b15 b16 (nn, ins, nf, fn, bk, rCopy bk rw fr (nI ia) to (nI jc) (nI kn), bd, sCopy bk rw fr (nI ia) to (nI jc) (nI kn), c2, c3, c4); have hrc : rCopy bk rw fr (nI ia) to (nI jc) (nI kn) = va_up rw w2 (lane, n02, va_cpy f0 f02 ia jc kn) := (by unfold rCopy; rw [if_pos hs, hjbc, hbk, hjbc2, hbk2]; show va_up rw w2 ((rw w2).1, (rw w2).2.1, va_cpy (rw w).2.2 (rw w2).2.2 (nI ia).toNatClampNeg (nI jc).toNatClampNeg (nI kn).toNatClampNeg) = _; rw [hrw, hrw2, nI_clamp (by omega), nI_clamp (by omega), nI_clamp (by omega), hlan]); rw [hrc, hs]; exact ⟨_, _, _, _, _, _, _, _, _, _, _, _, _, _, _, _, _, ⟨g_y, g_b1, g_b2, g_b3, g_b4, g_b5, g_b6, g_b7, g_b8, g_b9, g_b10, g_b11, g_b12, g_b13, g_b14, g_b15, g_b16⟩, hB, hT, ((hR.set hlv2 (hrw2.trans (by rw [hlan])) h40 (fun q hq => (by rw [show k9 = kn by omega]; exact mv_new hSm (by rw [hlan]; exact hSm2) hMV (by omega) hq)) (fun r hr q hq => (by exact mv_old hr (by omega) hq)))), hN, hF, hc2, hc3, hc4⟩)
                        | succ n9 ih =>
                          intro k9 MV9 Mi ls H locs hk9 hMV eMi hM hS hl
                          have hh_y : Mi y = some (mO 8 [.ref b1, .ref b2, .ref b3, .ref b4, .ref b5, .int (nI nn), .ref b6, .ref b7, .ref b8, .ref b9, .ref b10, .ref b11, .int (nI nf), .ref b12, .ref b13, .int bd, .int st, .int fa, .ref b14, .ref b15, .ref b16]) := by rw [eMi]; exact (mUp_at (nd_ne hnd 0 5 rfl rfl (by decide)) (mUp_at (nd_ne hnd 0 16 rfl rfl (by decide)) g_y))
                          have hh_b1 : Mi b1 = some (mI E 10 B) := by rw [eMi]; exact (mUp_at (nd_ne hnd 1 5 rfl rfl (by decide)) (mUp_at (nd_ne hnd 1 16 rfl rfl (by decide)) g_b1))
                          have hh_b2 : Mi b2 = some (mI E 12 T) := by rw [eMi]; exact (mUp_at (nd_ne hnd 2 5 rfl rfl (by decide)) (mUp_at (nd_ne hnd 2 16 rfl rfl (by decide)) g_b2))
                          have hh_b3 : Mi b3 = some (mI E 24 LN) := by rw [eMi]; exact (mUp_at (nd_ne hnd 3 5 rfl rfl (by decide)) (mUp_at (nd_ne hnd 3 16 rfl rfl (by decide)) g_b3))
                          have hh_b4 : Mi b4 = some (mI E 24 SZ) := by rw [eMi]; exact (mUp_at (nd_ne hnd 4 5 rfl rfl (by decide)) (mUp_at (nd_ne hnd 4 16 rfl rfl (by decide)) g_b4))
                          have hh_b6 : Mi b6 = some (mI E 12 SO) := by rw [eMi]; exact (mUp_at (nd_ne hnd 6 5 rfl rfl (by decide)) (mUp_at (nd_ne hnd 6 16 rfl rfl (by decide)) g_b6))
                          have hh_b7 : Mi b7 = some (mI E 48 KN) := by rw [eMi]; exact (mUp_at (nd_ne hnd 7 5 rfl rfl (by decide)) (mUp_at (nd_ne hnd 7 16 rfl rfl (by decide)) g_b7))
                          have hh_b8 : Mi b8 = some (mI E 12 PI) := by rw [eMi]; exact (mUp_at (nd_ne hnd 8 5 rfl rfl (by decide)) (mUp_at (nd_ne hnd 8 16 rfl rfl (by decide)) g_b8))
                          have hh_b9 : Mi b9 = some (mZ E 12 ON) := by rw [eMi]; exact (mUp_at (nd_ne hnd 9 5 rfl rfl (by decide)) (mUp_at (nd_ne hnd 9 16 rfl rfl (by decide)) g_b9))
                          have hh_b10 : Mi b10 = some (mI E 12 PH) := by rw [eMi]; exact (mUp_at (nd_ne hnd 10 5 rfl rfl (by decide)) (mUp_at (nd_ne hnd 10 16 rfl rfl (by decide)) g_b10))
                          have hh_b11 : Mi b11 = some (mDb E 12 LE) := by rw [eMi]; exact (mUp_at (nd_ne hnd 11 5 rfl rfl (by decide)) (mUp_at (nd_ne hnd 11 16 rfl rfl (by decide)) g_b11))
                          have hh_b12 : Mi b12 = some (mI E 8 KD) := by rw [eMi]; exact (mUp_at (nd_ne hnd 12 5 rfl rfl (by decide)) (mUp_at (nd_ne hnd 12 16 rfl rfl (by decide)) g_b12))
                          have hh_b13 : Mi b13 = some (mI E 8 NM) := by rw [eMi]; exact (mUp_at (nd_ne hnd 13 5 rfl rfl (by decide)) (mUp_at (nd_ne hnd 13 16 rfl rfl (by decide)) g_b13))
                          have hh_b14 : Mi b14 = some (mI E 3 CT) := by rw [eMi]; exact (mUp_at (nd_ne hnd 14 5 rfl rfl (by decide)) (mUp_at (nd_ne hnd 14 16 rfl rfl (by decide)) g_b14))
                          have hh_b15 : Mi b15 = some (mDb E 40 CM) := by rw [eMi]; exact (mUp_at (nd_ne hnd 15 5 rfl rfl (by decide)) (mUp_at (nd_ne hnd 15 16 rfl rfl (by decide)) g_b15))
                          have hh_b16 : Mi b16 = some (mJ E 40 MV9) := by rw [eMi]; exact (mUp_at (nd_ne hnd 16 5 rfl rfl (by decide)) (mUp_self _ _ _))
                          have hh_b5 : Mi b5 = some (mJ E 960 (va_cpy MV9 SM 0 (40 * w2 + jc) k9)) := by rw [eMi]; exact (mUp_self _ _ _)
                          have g_y := hh_y
                          have g_b1 := hh_b1
                          have g_b2 := hh_b2
                          have g_b3 := hh_b3
                          have g_b4 := hh_b4
                          have g_b5 := hh_b5
                          have g_b6 := hh_b6
                          have g_b7 := hh_b7
                          have g_b8 := hh_b8
                          have g_b9 := hh_b9
                          have g_b10 := hh_b10
                          have g_b11 := hh_b11
                          have g_b12 := hh_b12
                          have g_b13 := hh_b13
                          have g_b14 := hh_b14
                          have g_b15 := hh_b15
                          have g_b16 := hh_b16
                          have hk : kept (nol y b1 b2 b3 b4 b5 b6 b7 b8 b9 b10 b11 b12 b13 b14 b15 b16) M Mi := (by rw [eMi]; exact ((kept.rf.up (nol_in 16 rfl)).up (nol_in 5 rfl)))
                          refine lv_iload hx hb dX10_copy_182 (lv_at hl 0 rfl) ?_
                          refine lv_iload hx hb dX10_copy_184 (lv_at hl 8 rfl) ?_
                          refine lv_icmp_ge (tgt := 218) hx hb dX10_copy_186 (by decide) (fun h9 => False.elim (by revert h9; exact (fun h => absurd h (nI_ge (by omega) (by omega))))) (fun _ => ?_)
                          refine lv_aload_n hx hb dX10_copy_189 rfl (lv_at hl 3 rfl) ?_
                          refine m_get (ci := 8) (v := .ref b5) (C := RX10) (T := TX10) (N := 21) hx hb hts in_X10_copy_X10 hown hE hM g_y rfl 4 (by decide) (hts (.fieldLink RX10 22 "CallWays2Model" "samples" "[J") (by decide +kernel)) (fun _ h9 => h9) rfl dX10_copy_190 ?_
                          refine lv_bipush (v := 40) hx hb dX10_copy_193 (by decide) ?_
                          refine lv_iload hx hb dX10_copy_195 (lv_at hl 1 rfl) ?_
                          refine lv_imul hx hb dX10_copy_197 ?_
                          refine lv_iload hx hb dX10_copy_198 (lv_at hl 7 rfl) ?_
                          refine lv_iadd hx hb dX10_copy_200 ?_
                          refine lv_iload hx hb dX10_copy_201 (lv_at hl 0 rfl) ?_
                          refine lv_iadd hx hb dX10_copy_203 ?_
                          refine lv_aload_n hx hb dX10_copy_204 rfl (lv_at hl 3 rfl) ?_
                          refine m_get (ci := 8) (v := .ref b16) (C := RX10) (T := TX10) (N := 21) hx hb hts in_X10_copy_X10 hown hE hM g_y rfl 20 (by decide) (hts (.fieldLink RX10 58 "CallWays2Model" "moved" "[J") (by decide +kernel)) (fun _ h9 => h9) rfl dX10_copy_205 ?_
                          refine lv_iload hx hb dX10_copy_208 (lv_at hl 0 rfl) ?_
                          refine m_lald hx hb hE hM g_b16 (vp_in_nI (by omega) (by decide)) dX10_copy_210 ?_
                          rw [show MV9 (nI k9).toNatClampNeg = MV9 k9 from by rw [nI_clamp (by omega)]]
                          rw [show (40 : Int32) * nI w2 + nI jc + nI k9 = nI (40 * w2 + (jc + k9)) from k40a w2 jc k9]
                          refine m_last hx hb hE hM hS g_b5 (in_k40 hw242 (by omega)) dX10_copy_211 (fun H locs hM hS => ?_)
                          rw [show vp_updL (va_cpy MV9 SM 0 (40 * w2 + jc) k9) (nI (40 * w2 + (jc + k9))).toNatClampNeg (MV9 k9) = va_cpy MV9 SM 0 (40 * w2 + jc) (k9 + 1) from by rw [nI_clamp (by omega), ← Nat.add_assoc]; exact (by have := cpy_s (f := MV9) (g := SM) (a := 0) (b := 40 * w2 + jc) (k := k9); rw [Nat.zero_add] at this; exact this)] at hM
                          have hM : mOK E.1 (mA M sz) (mUp Mi b5 (mJ E 960 (va_cpy MV9 SM 0 (40 * w2 + jc) (k9 + 1)))) H := hM
                          obtain ⟨M9, eM9⟩ : ∃ z, z = mUp Mi b5 (mJ E 960 (va_cpy MV9 SM 0 (40 * w2 + jc) (k9 + 1))) := ⟨_, rfl⟩
                          rw [← eM9] at hM
                          have g_y_ : M9 y = some (mO 8 [.ref b1, .ref b2, .ref b3, .ref b4, .ref b5, .int (nI nn), .ref b6, .ref b7, .ref b8, .ref b9, .ref b10, .ref b11, .int (nI nf), .ref b12, .ref b13, .int bd, .int st, .int fa, .ref b14, .ref b15, .ref b16]) := by rw [eM9]; exact mUp_at (nd_ne hnd 0 5 rfl rfl (by decide)) g_y
                          have g_b1_ : M9 b1 = some (mI E 10 B) := by rw [eM9]; exact mUp_at (nd_ne hnd 1 5 rfl rfl (by decide)) g_b1
                          have g_b2_ : M9 b2 = some (mI E 12 T) := by rw [eM9]; exact mUp_at (nd_ne hnd 2 5 rfl rfl (by decide)) g_b2
                          have g_b3_ : M9 b3 = some (mI E 24 LN) := by rw [eM9]; exact mUp_at (nd_ne hnd 3 5 rfl rfl (by decide)) g_b3
                          have g_b4_ : M9 b4 = some (mI E 24 SZ) := by rw [eM9]; exact mUp_at (nd_ne hnd 4 5 rfl rfl (by decide)) g_b4
                          have g_b6_ : M9 b6 = some (mI E 12 SO) := by rw [eM9]; exact mUp_at (nd_ne hnd 6 5 rfl rfl (by decide)) g_b6
                          have g_b7_ : M9 b7 = some (mI E 48 KN) := by rw [eM9]; exact mUp_at (nd_ne hnd 7 5 rfl rfl (by decide)) g_b7
                          have g_b8_ : M9 b8 = some (mI E 12 PI) := by rw [eM9]; exact mUp_at (nd_ne hnd 8 5 rfl rfl (by decide)) g_b8
                          have g_b9_ : M9 b9 = some (mZ E 12 ON) := by rw [eM9]; exact mUp_at (nd_ne hnd 9 5 rfl rfl (by decide)) g_b9
                          have g_b10_ : M9 b10 = some (mI E 12 PH) := by rw [eM9]; exact mUp_at (nd_ne hnd 10 5 rfl rfl (by decide)) g_b10
                          have g_b11_ : M9 b11 = some (mDb E 12 LE) := by rw [eM9]; exact mUp_at (nd_ne hnd 11 5 rfl rfl (by decide)) g_b11
                          have g_b12_ : M9 b12 = some (mI E 8 KD) := by rw [eM9]; exact mUp_at (nd_ne hnd 12 5 rfl rfl (by decide)) g_b12
                          have g_b13_ : M9 b13 = some (mI E 8 NM) := by rw [eM9]; exact mUp_at (nd_ne hnd 13 5 rfl rfl (by decide)) g_b13
                          have g_b14_ : M9 b14 = some (mI E 3 CT) := by rw [eM9]; exact mUp_at (nd_ne hnd 14 5 rfl rfl (by decide)) g_b14
                          have g_b15_ : M9 b15 = some (mDb E 40 CM) := by rw [eM9]; exact mUp_at (nd_ne hnd 15 5 rfl rfl (by decide)) g_b15
                          have g_b16_ : M9 b16 = some (mJ E 40 MV9) := by rw [eM9]; exact mUp_at (nd_ne hnd 16 5 rfl rfl (by decide)) g_b16
                          have g_y := g_y_
                          have g_b1 := g_b1_
                          have g_b2 := g_b2_
                          have g_b3 := g_b3_
                          have g_b4 := g_b4_
                          have g_b6 := g_b6_
                          have g_b7 := g_b7_
                          have g_b8 := g_b8_
                          have g_b9 := g_b9_
                          have g_b10 := g_b10_
                          have g_b11 := g_b11_
                          have g_b12 := g_b12_
                          have g_b13 := g_b13_
                          have g_b14 := g_b14_
                          have g_b15 := g_b15_
                          have g_b16 := g_b16_
                          have g_b5 : M9 b5 = some (mJ E 960 (va_cpy MV9 SM 0 (40 * w2 + jc) (k9 + 1))) := by rw [eM9]; exact mUp_self _ _ _
                          have hk : kept (nol y b1 b2 b3 b4 b5 b6 b7 b8 b9 b10 b11 b12 b13 b14 b15 b16) M M9 := (by rw [eM9]; exact hk.up (nol_in 5 rfl))
                          refine lv_iinc (v := ((nI k9) + 1)) (lv' := [(8, .int ((nI k9) + 1)), (7, .int (nI w2)), (6, .int (nI w)), (0, .ref y), (1, .int fr), (2, .int (nI ia)), (3, .int to), (4, .int (nI jc)), (5, .int (nI kn))]) hx hb dX10_copy_212 hl (k := 0) rfl rfl (by decide) rfl (fun ls hl => ?_)
                          refine lv_goto (tgt := 182) hx hb dX10_copy_215 (by decide) ?_
                          rw [nI_1] at hl
                          exact ih (k9 + 1) MV9 M9 ls _ _ (by omega) hMV (by rw [eM9, eMi, mUp_up]) hM hS (lv_sub hl [0, 1, 2, 3, 4, 5, 6, 7, 8] rfl)
                      have loop1 : ∀ (n9 : Nat) (k9 : Nat) (MV9 : Nat → Int64) (Mi : mMem) (ls : Array Slot) (H : Heap) (locs : List Loc), k9 + n9 = kn → (∀ q, q < k9 → MV9 q = SM (40 * w + (ia + q))) → Mi = mUp M b16 (mJ E 40 MV9) → mOK E.1 (mA M sz) Mi H → va_S (mA M sz) s.heap H locs → lv_has ls 9 [(8, .int (nI k9)), (7, .int (nI w2)), (6, .int (nI w)), (0, .ref y), (1, .int fr), (2, .int (nI ia)), (3, .int to), (4, .int (nI jc)), (5, .int (nI kn))] → W p l e ({ frames := 1, cells := 0, slots := 0, locals := 22 } : Room) s m #[.ref y, .int fr, .int (nI ia), .int to, .int (nI jc), .int (nI kn)] below meth c H locs (0) (0) (MQ below (mQi E M sz (fun r u => r = aCopy (nn, ins, nf, fn, bk, rw, bd, st, c2, c3, c4) fr (nI ia) to (nI jc) (nI kn) ∧ mR E u y b1 b2 b3 b4 b5 b6 b7 b8 b9 b10 b11 b12 b13 b14 b15 b16 (nCopy (nn, ins, nf, fn, bk, rw, bd, st, c2, c3, c4) fr (nI ia) to (nI jc) (nI kn)) ∧ kept (nol y b1 b2 b3 b4 b5 b6 b7 b8 b9 b10 b11 b12 b13 b14 b15 b16) M u)) #[.ref y, .int fr, .int (nI ia), .int to, .int (nI jc), .int (nI kn)] s (0) (0) (mA M sz)) (F0 m 144 ls []) := by
                        intro n9
                        induction n9 with
                        | zero =>
                          intro k9 MV9 Mi ls H locs hk9 hMV eMi hM hS hl
                          have hh_y : Mi y = some (mO 8 [.ref b1, .ref b2, .ref b3, .ref b4, .ref b5, .int (nI nn), .ref b6, .ref b7, .ref b8, .ref b9, .ref b10, .ref b11, .int (nI nf), .ref b12, .ref b13, .int bd, .int st, .int fa, .ref b14, .ref b15, .ref b16]) := by rw [eMi]; exact (mUp_at (nd_ne hnd 0 16 rfl rfl (by decide)) g_y)
                          have hh_b1 : Mi b1 = some (mI E 10 B) := by rw [eMi]; exact (mUp_at (nd_ne hnd 1 16 rfl rfl (by decide)) g_b1)
                          have hh_b2 : Mi b2 = some (mI E 12 T) := by rw [eMi]; exact (mUp_at (nd_ne hnd 2 16 rfl rfl (by decide)) g_b2)
                          have hh_b3 : Mi b3 = some (mI E 24 LN) := by rw [eMi]; exact (mUp_at (nd_ne hnd 3 16 rfl rfl (by decide)) g_b3)
                          have hh_b4 : Mi b4 = some (mI E 24 SZ) := by rw [eMi]; exact (mUp_at (nd_ne hnd 4 16 rfl rfl (by decide)) g_b4)
                          have hh_b5 : Mi b5 = some (mJ E 960 SM) := by rw [eMi]; exact (mUp_at (nd_ne hnd 5 16 rfl rfl (by decide)) g_b5)
                          have hh_b6 : Mi b6 = some (mI E 12 SO) := by rw [eMi]; exact (mUp_at (nd_ne hnd 6 16 rfl rfl (by decide)) g_b6)
                          have hh_b7 : Mi b7 = some (mI E 48 KN) := by rw [eMi]; exact (mUp_at (nd_ne hnd 7 16 rfl rfl (by decide)) g_b7)
                          have hh_b8 : Mi b8 = some (mI E 12 PI) := by rw [eMi]; exact (mUp_at (nd_ne hnd 8 16 rfl rfl (by decide)) g_b8)
                          have hh_b9 : Mi b9 = some (mZ E 12 ON) := by rw [eMi]; exact (mUp_at (nd_ne hnd 9 16 rfl rfl (by decide)) g_b9)
                          have hh_b10 : Mi b10 = some (mI E 12 PH) := by rw [eMi]; exact (mUp_at (nd_ne hnd 10 16 rfl rfl (by decide)) g_b10)
                          have hh_b11 : Mi b11 = some (mDb E 12 LE) := by rw [eMi]; exact (mUp_at (nd_ne hnd 11 16 rfl rfl (by decide)) g_b11)
                          have hh_b12 : Mi b12 = some (mI E 8 KD) := by rw [eMi]; exact (mUp_at (nd_ne hnd 12 16 rfl rfl (by decide)) g_b12)
                          have hh_b13 : Mi b13 = some (mI E 8 NM) := by rw [eMi]; exact (mUp_at (nd_ne hnd 13 16 rfl rfl (by decide)) g_b13)
                          have hh_b14 : Mi b14 = some (mI E 3 CT) := by rw [eMi]; exact (mUp_at (nd_ne hnd 14 16 rfl rfl (by decide)) g_b14)
                          have hh_b15 : Mi b15 = some (mDb E 40 CM) := by rw [eMi]; exact (mUp_at (nd_ne hnd 15 16 rfl rfl (by decide)) g_b15)
                          have hh_b16 : Mi b16 = some (mJ E 40 MV9) := by rw [eMi]; exact (mUp_self _ _ _)
                          have g_y := hh_y
                          have g_b1 := hh_b1
                          have g_b2 := hh_b2
                          have g_b3 := hh_b3
                          have g_b4 := hh_b4
                          have g_b5 := hh_b5
                          have g_b6 := hh_b6
                          have g_b7 := hh_b7
                          have g_b8 := hh_b8
                          have g_b9 := hh_b9
                          have g_b10 := hh_b10
                          have g_b11 := hh_b11
                          have g_b12 := hh_b12
                          have g_b13 := hh_b13
                          have g_b14 := hh_b14
                          have g_b15 := hh_b15
                          have g_b16 := hh_b16
                          have hk : kept (nol y b1 b2 b3 b4 b5 b6 b7 b8 b9 b10 b11 b12 b13 b14 b15 b16) M Mi := (by rw [eMi]; exact (kept.rf.up (nol_in 16 rfl)))
                          refine lv_iload hx hb dX10_copy_144 (lv_at hl 0 rfl) ?_
                          refine lv_iload hx hb dX10_copy_146 (lv_at hl 8 rfl) ?_
                          refine lv_icmp_ge (tgt := 179) hx hb dX10_copy_148 (by decide) (fun _ => ?_) (fun h9 => False.elim (by revert h9; exact (fun h => h (nI_le (by omega) (by omega)))))
                          refine lv_iconst (v := 0) hx hb dX10_copy_179 (by decide) ?_
                          refine lv_istore (lv' := [(8, .int 0), (7, .int (nI w2)), (6, .int (nI w)), (0, .ref y), (1, .int fr), (2, .int (nI ia)), (3, .int to), (4, .int (nI jc)), (5, .int (nI kn))]) hx hb dX10_copy_180 hl (by decide) rfl (fun ls hl => ?_)
                          exact loop2 kn 0 MV9 Mi ls _ _ (by omega) (by rw [show kn = k9 by omega]; exact hMV) (by rw [cpy_0, eMi]; exact (mUp_id (by rw [← eMi]; exact g_b5)).symm) hM hS (lv_sub hl [0, 1, 2, 3, 4, 5, 6, 7, 8] rfl)
                        | succ n9 ih =>
                          intro k9 MV9 Mi ls H locs hk9 hMV eMi hM hS hl
                          have hh_y : Mi y = some (mO 8 [.ref b1, .ref b2, .ref b3, .ref b4, .ref b5, .int (nI nn), .ref b6, .ref b7, .ref b8, .ref b9, .ref b10, .ref b11, .int (nI nf), .ref b12, .ref b13, .int bd, .int st, .int fa, .ref b14, .ref b15, .ref b16]) := by rw [eMi]; exact (mUp_at (nd_ne hnd 0 16 rfl rfl (by decide)) g_y)
                          have hh_b1 : Mi b1 = some (mI E 10 B) := by rw [eMi]; exact (mUp_at (nd_ne hnd 1 16 rfl rfl (by decide)) g_b1)
                          have hh_b2 : Mi b2 = some (mI E 12 T) := by rw [eMi]; exact (mUp_at (nd_ne hnd 2 16 rfl rfl (by decide)) g_b2)
                          have hh_b3 : Mi b3 = some (mI E 24 LN) := by rw [eMi]; exact (mUp_at (nd_ne hnd 3 16 rfl rfl (by decide)) g_b3)
                          have hh_b4 : Mi b4 = some (mI E 24 SZ) := by rw [eMi]; exact (mUp_at (nd_ne hnd 4 16 rfl rfl (by decide)) g_b4)
                          have hh_b5 : Mi b5 = some (mJ E 960 SM) := by rw [eMi]; exact (mUp_at (nd_ne hnd 5 16 rfl rfl (by decide)) g_b5)
                          have hh_b6 : Mi b6 = some (mI E 12 SO) := by rw [eMi]; exact (mUp_at (nd_ne hnd 6 16 rfl rfl (by decide)) g_b6)
                          have hh_b7 : Mi b7 = some (mI E 48 KN) := by rw [eMi]; exact (mUp_at (nd_ne hnd 7 16 rfl rfl (by decide)) g_b7)
                          have hh_b8 : Mi b8 = some (mI E 12 PI) := by rw [eMi]; exact (mUp_at (nd_ne hnd 8 16 rfl rfl (by decide)) g_b8)
                          have hh_b9 : Mi b9 = some (mZ E 12 ON) := by rw [eMi]; exact (mUp_at (nd_ne hnd 9 16 rfl rfl (by decide)) g_b9)
                          have hh_b10 : Mi b10 = some (mI E 12 PH) := by rw [eMi]; exact (mUp_at (nd_ne hnd 10 16 rfl rfl (by decide)) g_b10)
                          have hh_b11 : Mi b11 = some (mDb E 12 LE) := by rw [eMi]; exact (mUp_at (nd_ne hnd 11 16 rfl rfl (by decide)) g_b11)
                          have hh_b12 : Mi b12 = some (mI E 8 KD) := by rw [eMi]; exact (mUp_at (nd_ne hnd 12 16 rfl rfl (by decide)) g_b12)
                          have hh_b13 : Mi b13 = some (mI E 8 NM) := by rw [eMi]; exact (mUp_at (nd_ne hnd 13 16 rfl rfl (by decide)) g_b13)
                          have hh_b14 : Mi b14 = some (mI E 3 CT) := by rw [eMi]; exact (mUp_at (nd_ne hnd 14 16 rfl rfl (by decide)) g_b14)
                          have hh_b15 : Mi b15 = some (mDb E 40 CM) := by rw [eMi]; exact (mUp_at (nd_ne hnd 15 16 rfl rfl (by decide)) g_b15)
                          have hh_b16 : Mi b16 = some (mJ E 40 MV9) := by rw [eMi]; exact (mUp_self _ _ _)
                          have g_y := hh_y
                          have g_b1 := hh_b1
                          have g_b2 := hh_b2
                          have g_b3 := hh_b3
                          have g_b4 := hh_b4
                          have g_b5 := hh_b5
                          have g_b6 := hh_b6
                          have g_b7 := hh_b7
                          have g_b8 := hh_b8
                          have g_b9 := hh_b9
                          have g_b10 := hh_b10
                          have g_b11 := hh_b11
                          have g_b12 := hh_b12
                          have g_b13 := hh_b13
                          have g_b14 := hh_b14
                          have g_b15 := hh_b15
                          have g_b16 := hh_b16
                          have hk : kept (nol y b1 b2 b3 b4 b5 b6 b7 b8 b9 b10 b11 b12 b13 b14 b15 b16) M Mi := (by rw [eMi]; exact (kept.rf.up (nol_in 16 rfl)))
                          refine lv_iload hx hb dX10_copy_144 (lv_at hl 0 rfl) ?_
                          refine lv_iload hx hb dX10_copy_146 (lv_at hl 8 rfl) ?_
                          refine lv_icmp_ge (tgt := 179) hx hb dX10_copy_148 (by decide) (fun h9 => False.elim (by revert h9; exact (fun h => absurd h (nI_ge (by omega) (by omega))))) (fun _ => ?_)
                          refine lv_aload_n hx hb dX10_copy_151 rfl (lv_at hl 3 rfl) ?_
                          refine m_get (ci := 8) (v := .ref b16) (C := RX10) (T := TX10) (N := 21) hx hb hts in_X10_copy_X10 hown hE hM g_y rfl 20 (by decide) (hts (.fieldLink RX10 58 "CallWays2Model" "moved" "[J") (by decide +kernel)) (fun _ h9 => h9) rfl dX10_copy_152 ?_
                          refine lv_iload hx hb dX10_copy_155 (lv_at hl 0 rfl) ?_
                          refine lv_aload_n hx hb dX10_copy_157 rfl (lv_at hl 3 rfl) ?_
                          refine m_get (ci := 8) (v := .ref b5) (C := RX10) (T := TX10) (N := 21) hx hb hts in_X10_copy_X10 hown hE hM g_y rfl 4 (by decide) (hts (.fieldLink RX10 22 "CallWays2Model" "samples" "[J") (by decide +kernel)) (fun _ h9 => h9) rfl dX10_copy_158 ?_
                          refine lv_bipush (v := 40) hx hb dX10_copy_161 (by decide) ?_
                          refine lv_iload hx hb dX10_copy_163 (lv_at hl 2 rfl) ?_
                          refine lv_imul hx hb dX10_copy_165 ?_
                          refine lv_iload_n hx hb dX10_copy_166 rfl (lv_at hl 5 rfl) ?_
                          refine lv_iadd hx hb dX10_copy_167 ?_
                          refine lv_iload hx hb dX10_copy_168 (lv_at hl 0 rfl) ?_
                          refine lv_iadd hx hb dX10_copy_170 ?_
                          rw [show (40 : Int32) * nI w + nI ia + nI k9 = nI (40 * w + (ia + k9)) from k40a w ia k9]
                          refine m_lald hx hb hE hM g_b5 (in_k40 hw24 (by omega)) dX10_copy_171 ?_
                          rw [show SM (nI (40 * w + (ia + k9))).toNatClampNeg = SM (40 * w + (ia + k9)) from by rw [nI_clamp (by omega)]]
                          refine m_last hx hb hE hM hS g_b16 (vp_in_nI (by omega) (by decide)) dX10_copy_172 (fun H locs hM hS => ?_)
                          rw [show vp_updL MV9 (nI k9).toNatClampNeg (SM (40 * w + (ia + k9))) = vp_updL MV9 k9 (SM (40 * w + (ia + k9))) from by rw [nI_clamp (by omega)]] at hM
                          have hM : mOK E.1 (mA M sz) (mUp Mi b16 (mJ E 40 (vp_updL MV9 k9 (SM (40 * w + (ia + k9)))))) H := hM
                          obtain ⟨M10, eM10⟩ : ∃ z, z = mUp Mi b16 (mJ E 40 (vp_updL MV9 k9 (SM (40 * w + (ia + k9))))) := ⟨_, rfl⟩
                          rw [← eM10] at hM
                          have g_y_ : M10 y = some (mO 8 [.ref b1, .ref b2, .ref b3, .ref b4, .ref b5, .int (nI nn), .ref b6, .ref b7, .ref b8, .ref b9, .ref b10, .ref b11, .int (nI nf), .ref b12, .ref b13, .int bd, .int st, .int fa, .ref b14, .ref b15, .ref b16]) := by rw [eM10]; exact mUp_at (nd_ne hnd 0 16 rfl rfl (by decide)) g_y
                          have g_b1_ : M10 b1 = some (mI E 10 B) := by rw [eM10]; exact mUp_at (nd_ne hnd 1 16 rfl rfl (by decide)) g_b1
                          have g_b2_ : M10 b2 = some (mI E 12 T) := by rw [eM10]; exact mUp_at (nd_ne hnd 2 16 rfl rfl (by decide)) g_b2
                          have g_b3_ : M10 b3 = some (mI E 24 LN) := by rw [eM10]; exact mUp_at (nd_ne hnd 3 16 rfl rfl (by decide)) g_b3
                          have g_b4_ : M10 b4 = some (mI E 24 SZ) := by rw [eM10]; exact mUp_at (nd_ne hnd 4 16 rfl rfl (by decide)) g_b4
                          have g_b5_ : M10 b5 = some (mJ E 960 SM) := by rw [eM10]; exact mUp_at (nd_ne hnd 5 16 rfl rfl (by decide)) g_b5
                          have g_b6_ : M10 b6 = some (mI E 12 SO) := by rw [eM10]; exact mUp_at (nd_ne hnd 6 16 rfl rfl (by decide)) g_b6
                          have g_b7_ : M10 b7 = some (mI E 48 KN) := by rw [eM10]; exact mUp_at (nd_ne hnd 7 16 rfl rfl (by decide)) g_b7
                          have g_b8_ : M10 b8 = some (mI E 12 PI) := by rw [eM10]; exact mUp_at (nd_ne hnd 8 16 rfl rfl (by decide)) g_b8
                          have g_b9_ : M10 b9 = some (mZ E 12 ON) := by rw [eM10]; exact mUp_at (nd_ne hnd 9 16 rfl rfl (by decide)) g_b9
                          have g_b10_ : M10 b10 = some (mI E 12 PH) := by rw [eM10]; exact mUp_at (nd_ne hnd 10 16 rfl rfl (by decide)) g_b10
                          have g_b11_ : M10 b11 = some (mDb E 12 LE) := by rw [eM10]; exact mUp_at (nd_ne hnd 11 16 rfl rfl (by decide)) g_b11
                          have g_b12_ : M10 b12 = some (mI E 8 KD) := by rw [eM10]; exact mUp_at (nd_ne hnd 12 16 rfl rfl (by decide)) g_b12
                          have g_b13_ : M10 b13 = some (mI E 8 NM) := by rw [eM10]; exact mUp_at (nd_ne hnd 13 16 rfl rfl (by decide)) g_b13
                          have g_b14_ : M10 b14 = some (mI E 3 CT) := by rw [eM10]; exact mUp_at (nd_ne hnd 14 16 rfl rfl (by decide)) g_b14
                          have g_b15_ : M10 b15 = some (mDb E 40 CM) := by rw [eM10]; exact mUp_at (nd_ne hnd 15 16 rfl rfl (by decide)) g_b15
                          have g_y := g_y_
                          have g_b1 := g_b1_
                          have g_b2 := g_b2_
                          have g_b3 := g_b3_
                          have g_b4 := g_b4_
                          have g_b5 := g_b5_
                          have g_b6 := g_b6_
                          have g_b7 := g_b7_
                          have g_b8 := g_b8_
                          have g_b9 := g_b9_
                          have g_b10 := g_b10_
                          have g_b11 := g_b11_
                          have g_b12 := g_b12_
                          have g_b13 := g_b13_
                          have g_b14 := g_b14_
                          have g_b15 := g_b15_
                          have g_b16 : M10 b16 = some (mJ E 40 (vp_updL MV9 k9 (SM (40 * w + (ia + k9))))) := by rw [eM10]; exact mUp_self _ _ _
                          have hk : kept (nol y b1 b2 b3 b4 b5 b6 b7 b8 b9 b10 b11 b12 b13 b14 b15 b16) M M10 := (by rw [eM10]; exact hk.up (nol_in 16 rfl))
                          refine lv_iinc (v := ((nI k9) + 1)) (lv' := [(8, .int ((nI k9) + 1)), (7, .int (nI w2)), (6, .int (nI w)), (0, .ref y), (1, .int fr), (2, .int (nI ia)), (3, .int to), (4, .int (nI jc)), (5, .int (nI kn))]) hx hb dX10_copy_173 hl (k := 0) rfl rfl (by decide) rfl (fun ls hl => ?_)
                          refine lv_goto (tgt := 144) hx hb dX10_copy_176 (by decide) ?_
                          rw [nI_1] at hl
                          exact ih (k9 + 1) (vp_updL MV9 k9 (SM (40 * w + (ia + k9)))) M10 ls _ _ (by omega) (mv_up2 hMV) (by rw [eM10, eMi, mUp_up]) hM hS (lv_sub hl [0, 1, 2, 3, 4, 5, 6, 7, 8] rfl)
                      exact loop1 kn 0 MV M ls _ _ (by omega) (fun q hq => absurd hq (by omega)) (mUp_id g_b16).symm hM hS (lv_sub hl [0, 1, 2, 3, 4, 5, 6, 7, 8] rfl)
                    · skip
                      replace c_131 := Int32.not_le.mp c_131
                      rw [ejc, ekn, lsum (by omega) hjc hkn] at c_131
                      have hsp : ¬ (spn n0 i k ∧ spn n02 j k) := fun q => c_131 ((spn_iff (by omega) hjc hkn).mp (by rw [← ejc, ← ekn]; exact q.2))
                      refine lv_aload_n hx hb dX10_copy_134 rfl (lv_at hl 2 rfl) ?_
                      refine lv_bipush (v := -7) hx hb dX10_copy_135 (by decide) ?_
                      refine m_calli (va_runV (As := [.int (-7)]) (rest := []) ⟨hx, hb, hml, hown, hts⟩ (c_X10_says l E M H.size y b1 b2 b3 b4 b5 b6 b7 b8 b9 b10 b11 b12 b13 b14 b15 b16 (nI nn) (nI nf) bd st fa (-7 : Int32) g_y) (cwV 1 hts gX10_copy_X10_says rfl rfl rfl (by decide +kernel) ⟨Nat.le_of_ble_eq_true rfl, Nat.le_of_ble_eq_true rfl⟩) (m_preV hE hM g_y rfl) rfl rfl hl.1 rfl (lv_room (Nat.le_of_ble_eq_true rfl)) dX10_copy_137 ⟨Nat.le_of_ble_eq_true rfl, Nat.le_of_ble_eq_true rfl⟩) hM hS hA (fun r2 M11 H locs hw hM hS => ?_)
                      obtain ⟨e_r2, eM11⟩ := hw
                      subst e_r2
                      have g_b1_ : M11 b1 = some (mI E 10 B) := by rw [eM11]; exact mUp_at (nd_ne hnd 1 0 rfl rfl (by decide)) g_b1
                      have g_b2_ : M11 b2 = some (mI E 12 T) := by rw [eM11]; exact mUp_at (nd_ne hnd 2 0 rfl rfl (by decide)) g_b2
                      have g_b3_ : M11 b3 = some (mI E 24 LN) := by rw [eM11]; exact mUp_at (nd_ne hnd 3 0 rfl rfl (by decide)) g_b3
                      have g_b4_ : M11 b4 = some (mI E 24 SZ) := by rw [eM11]; exact mUp_at (nd_ne hnd 4 0 rfl rfl (by decide)) g_b4
                      have g_b5_ : M11 b5 = some (mJ E 960 SM) := by rw [eM11]; exact mUp_at (nd_ne hnd 5 0 rfl rfl (by decide)) g_b5
                      have g_b6_ : M11 b6 = some (mI E 12 SO) := by rw [eM11]; exact mUp_at (nd_ne hnd 6 0 rfl rfl (by decide)) g_b6
                      have g_b7_ : M11 b7 = some (mI E 48 KN) := by rw [eM11]; exact mUp_at (nd_ne hnd 7 0 rfl rfl (by decide)) g_b7
                      have g_b8_ : M11 b8 = some (mI E 12 PI) := by rw [eM11]; exact mUp_at (nd_ne hnd 8 0 rfl rfl (by decide)) g_b8
                      have g_b9_ : M11 b9 = some (mZ E 12 ON) := by rw [eM11]; exact mUp_at (nd_ne hnd 9 0 rfl rfl (by decide)) g_b9
                      have g_b10_ : M11 b10 = some (mI E 12 PH) := by rw [eM11]; exact mUp_at (nd_ne hnd 10 0 rfl rfl (by decide)) g_b10
                      have g_b11_ : M11 b11 = some (mDb E 12 LE) := by rw [eM11]; exact mUp_at (nd_ne hnd 11 0 rfl rfl (by decide)) g_b11
                      have g_b12_ : M11 b12 = some (mI E 8 KD) := by rw [eM11]; exact mUp_at (nd_ne hnd 12 0 rfl rfl (by decide)) g_b12
                      have g_b13_ : M11 b13 = some (mI E 8 NM) := by rw [eM11]; exact mUp_at (nd_ne hnd 13 0 rfl rfl (by decide)) g_b13
                      have g_b14_ : M11 b14 = some (mI E 3 CT) := by rw [eM11]; exact mUp_at (nd_ne hnd 14 0 rfl rfl (by decide)) g_b14
                      have g_b15_ : M11 b15 = some (mDb E 40 CM) := by rw [eM11]; exact mUp_at (nd_ne hnd 15 0 rfl rfl (by decide)) g_b15
                      have g_b16_ : M11 b16 = some (mJ E 40 MV) := by rw [eM11]; exact mUp_at (nd_ne hnd 16 0 rfl rfl (by decide)) g_b16
                      have g_b1 := g_b1_
                      have g_b2 := g_b2_
                      have g_b3 := g_b3_
                      have g_b4 := g_b4_
                      have g_b5 := g_b5_
                      have g_b6 := g_b6_
                      have g_b7 := g_b7_
                      have g_b8 := g_b8_
                      have g_b9 := g_b9_
                      have g_b10 := g_b10_
                      have g_b11 := g_b11_
                      have g_b12 := g_b12_
                      have g_b13 := g_b13_
                      have g_b14 := g_b14_
                      have g_b15 := g_b15_
                      have g_b16 := g_b16_
                      have g_y : M11 y = some (mO 8 [.ref b1, .ref b2, .ref b3, .ref b4, .ref b5, .int (nI nn), .ref b6, .ref b7, .ref b8, .ref b9, .ref b10, .ref b11, .int (nI nf), .ref b12, .ref b13, .int bd, .int (if (-7 : Int32) < 0 then (-7 : Int32) else 0), .int fa, .ref b14, .ref b15, .ref b16]) := by rw [eM11]; exact mUp_self _ _ _
                      have hk : kept (nol y b1 b2 b3 b4 b5 b6 b7 b8 b9 b10 b11 b12 b13 b14 b15 b16) M M11 := (by rw [eM11]; exact hk.up (nol_in 0 rfl))
                      rw [if_pos (show (-7 : Int32) < 0 by decide)] at g_y
                      exact m_iret hx hb hr hlocks hM hS (Nat.le_refl _) (Nat.le_refl _) dX10_copy_140 (by have hs : sCopy bk rw fr i to j k = -7 := (by rw [hcs, if_pos c_73, if_neg hsp]); refine ⟨(by show _ = (if sCopy bk rw fr i to j k = 0 then 1 else sCopy bk rw fr i to j k); rw [hs]; rfl), ?_, hk⟩; show mR E _ y b1 b2 b3 b4 b5 b6 b7 b8 b9 b10 b11 b12 b13 b14 b15 b16 (nn, ins, nf, fn, bk, (if sCopy bk rw fr i to j k = 0 then _ else rw), bd, sCopy bk rw fr i to j k, c2, c3, c4); rw [hs]; rw [if_neg (by decide)]; exact ⟨_, _, _, _, _, _, _, _, _, _, _, _, _, _, _, _, _, ⟨g_y, g_b1, g_b2, g_b3, g_b4, g_b5, g_b6, g_b7, g_b8, g_b9, g_b10, g_b11, g_b12, g_b13, g_b14, g_b15, g_b16⟩, hB, hT, hR, hN, hF, hc2, hc3, hc4⟩)
          · skip
            refine lv_aload_n hx hb dX10_copy_76 rfl (lv_at hl 2 rfl) ?_
            refine lv_bipush (v := -9) hx hb dX10_copy_77 (by decide) ?_
            refine m_calli (va_runV (As := [.int (-9)]) (rest := []) ⟨hx, hb, hml, hown, hts⟩ (c_X10_says l E M H.size y b1 b2 b3 b4 b5 b6 b7 b8 b9 b10 b11 b12 b13 b14 b15 b16 (nI nn) (nI nf) bd st fa (-9 : Int32) g_y) (cwV 1 hts gX10_copy_X10_says rfl rfl rfl (by decide +kernel) ⟨Nat.le_of_ble_eq_true rfl, Nat.le_of_ble_eq_true rfl⟩) (m_preV hE hM g_y rfl) rfl rfl hl.1 rfl (lv_room (Nat.le_of_ble_eq_true rfl)) dX10_copy_79 ⟨Nat.le_of_ble_eq_true rfl, Nat.le_of_ble_eq_true rfl⟩) hM hS hA (fun r2 M12 H locs hw hM hS => ?_)
            obtain ⟨e_r2, eM12⟩ := hw
            subst e_r2
            have g_b1_ : M12 b1 = some (mI E 10 B) := by rw [eM12]; exact mUp_at (nd_ne hnd 1 0 rfl rfl (by decide)) g_b1
            have g_b2_ : M12 b2 = some (mI E 12 T) := by rw [eM12]; exact mUp_at (nd_ne hnd 2 0 rfl rfl (by decide)) g_b2
            have g_b3_ : M12 b3 = some (mI E 24 LN) := by rw [eM12]; exact mUp_at (nd_ne hnd 3 0 rfl rfl (by decide)) g_b3
            have g_b4_ : M12 b4 = some (mI E 24 SZ) := by rw [eM12]; exact mUp_at (nd_ne hnd 4 0 rfl rfl (by decide)) g_b4
            have g_b5_ : M12 b5 = some (mJ E 960 SM) := by rw [eM12]; exact mUp_at (nd_ne hnd 5 0 rfl rfl (by decide)) g_b5
            have g_b6_ : M12 b6 = some (mI E 12 SO) := by rw [eM12]; exact mUp_at (nd_ne hnd 6 0 rfl rfl (by decide)) g_b6
            have g_b7_ : M12 b7 = some (mI E 48 KN) := by rw [eM12]; exact mUp_at (nd_ne hnd 7 0 rfl rfl (by decide)) g_b7
            have g_b8_ : M12 b8 = some (mI E 12 PI) := by rw [eM12]; exact mUp_at (nd_ne hnd 8 0 rfl rfl (by decide)) g_b8
            have g_b9_ : M12 b9 = some (mZ E 12 ON) := by rw [eM12]; exact mUp_at (nd_ne hnd 9 0 rfl rfl (by decide)) g_b9
            have g_b10_ : M12 b10 = some (mI E 12 PH) := by rw [eM12]; exact mUp_at (nd_ne hnd 10 0 rfl rfl (by decide)) g_b10
            have g_b11_ : M12 b11 = some (mDb E 12 LE) := by rw [eM12]; exact mUp_at (nd_ne hnd 11 0 rfl rfl (by decide)) g_b11
            have g_b12_ : M12 b12 = some (mI E 8 KD) := by rw [eM12]; exact mUp_at (nd_ne hnd 12 0 rfl rfl (by decide)) g_b12
            have g_b13_ : M12 b13 = some (mI E 8 NM) := by rw [eM12]; exact mUp_at (nd_ne hnd 13 0 rfl rfl (by decide)) g_b13
            have g_b14_ : M12 b14 = some (mI E 3 CT) := by rw [eM12]; exact mUp_at (nd_ne hnd 14 0 rfl rfl (by decide)) g_b14
            have g_b15_ : M12 b15 = some (mDb E 40 CM) := by rw [eM12]; exact mUp_at (nd_ne hnd 15 0 rfl rfl (by decide)) g_b15
            have g_b16_ : M12 b16 = some (mJ E 40 MV) := by rw [eM12]; exact mUp_at (nd_ne hnd 16 0 rfl rfl (by decide)) g_b16
            have g_b1 := g_b1_
            have g_b2 := g_b2_
            have g_b3 := g_b3_
            have g_b4 := g_b4_
            have g_b5 := g_b5_
            have g_b6 := g_b6_
            have g_b7 := g_b7_
            have g_b8 := g_b8_
            have g_b9 := g_b9_
            have g_b10 := g_b10_
            have g_b11 := g_b11_
            have g_b12 := g_b12_
            have g_b13 := g_b13_
            have g_b14 := g_b14_
            have g_b15 := g_b15_
            have g_b16 := g_b16_
            have g_y : M12 y = some (mO 8 [.ref b1, .ref b2, .ref b3, .ref b4, .ref b5, .int (nI nn), .ref b6, .ref b7, .ref b8, .ref b9, .ref b10, .ref b11, .int (nI nf), .ref b12, .ref b13, .int bd, .int (if (-9 : Int32) < 0 then (-9 : Int32) else 0), .int fa, .ref b14, .ref b15, .ref b16]) := by rw [eM12]; exact mUp_self _ _ _
            have hk : kept (nol y b1 b2 b3 b4 b5 b6 b7 b8 b9 b10 b11 b12 b13 b14 b15 b16) M M12 := (by rw [eM12]; exact hk.up (nol_in 0 rfl))
            rw [if_pos (show (-9 : Int32) < 0 by decide)] at g_y
            exact m_iret hx hb hr hlocks hM hS (Nat.le_refl _) (Nat.le_refl _) dX10_copy_82 (by have hs : sCopy bk rw fr i to j k = -9 := (by rw [hcs, if_neg c_73]); refine ⟨(by show _ = (if sCopy bk rw fr i to j k = 0 then 1 else sCopy bk rw fr i to j k); rw [hs]; rfl), ?_, hk⟩; show mR E _ y b1 b2 b3 b4 b5 b6 b7 b8 b9 b10 b11 b12 b13 b14 b15 b16 (nn, ins, nf, fn, bk, (if sCopy bk rw fr i to j k = 0 then _ else rw), bd, sCopy bk rw fr i to j k, c2, c3, c4); rw [hs]; rw [if_neg (by decide)]; exact ⟨_, _, _, _, _, _, _, _, _, _, _, _, _, _, _, _, _, ⟨g_y, g_b1, g_b2, g_b3, g_b4, g_b5, g_b6, g_b7, g_b8, g_b9, g_b10, g_b11, g_b12, g_b13, g_b14, g_b15, g_b16⟩, hB, hT, hR, hN, hF, hc2, hc3, hc4⟩)
    · skip
      rw [bI_eq] at c_17
      have hz : ¬ (vB fr ∧ vB to) := na2 c_17
      refine lv_aload_n hx hb dX10_copy_20 rfl (lv_at hl 0 rfl) ?_
      refine lv_iconst (v := -1) hx hb dX10_copy_21 (by decide) ?_
      refine m_calli (va_runV (As := [.int (-1)]) (rest := []) ⟨hx, hb, hml, hown, hts⟩ (c_X10_says l E M H.size y b1 b2 b3 b4 b5 b6 b7 b8 b9 b10 b11 b12 b13 b14 b15 b16 (nI nn) (nI nf) bd st fa (-1 : Int32) g_y) (cwV 1 hts gX10_copy_X10_says rfl rfl rfl (by decide +kernel) ⟨Nat.le_of_ble_eq_true rfl, Nat.le_of_ble_eq_true rfl⟩) (m_preV hE hM g_y rfl) rfl rfl hl.1 rfl (lv_room (Nat.le_of_ble_eq_true rfl)) dX10_copy_22 ⟨Nat.le_of_ble_eq_true rfl, Nat.le_of_ble_eq_true rfl⟩) hM hS hA (fun r2 M13 H locs hw hM hS => ?_)
      obtain ⟨e_r2, eM13⟩ := hw
      subst e_r2
      have g_b1_ : M13 b1 = some (mI E 10 B) := by rw [eM13]; exact mUp_at (nd_ne hnd 1 0 rfl rfl (by decide)) g_b1
      have g_b2_ : M13 b2 = some (mI E 12 T) := by rw [eM13]; exact mUp_at (nd_ne hnd 2 0 rfl rfl (by decide)) g_b2
      have g_b3_ : M13 b3 = some (mI E 24 LN) := by rw [eM13]; exact mUp_at (nd_ne hnd 3 0 rfl rfl (by decide)) g_b3
      have g_b4_ : M13 b4 = some (mI E 24 SZ) := by rw [eM13]; exact mUp_at (nd_ne hnd 4 0 rfl rfl (by decide)) g_b4
      have g_b5_ : M13 b5 = some (mJ E 960 SM) := by rw [eM13]; exact mUp_at (nd_ne hnd 5 0 rfl rfl (by decide)) g_b5
      have g_b6_ : M13 b6 = some (mI E 12 SO) := by rw [eM13]; exact mUp_at (nd_ne hnd 6 0 rfl rfl (by decide)) g_b6
      have g_b7_ : M13 b7 = some (mI E 48 KN) := by rw [eM13]; exact mUp_at (nd_ne hnd 7 0 rfl rfl (by decide)) g_b7
      have g_b8_ : M13 b8 = some (mI E 12 PI) := by rw [eM13]; exact mUp_at (nd_ne hnd 8 0 rfl rfl (by decide)) g_b8
      have g_b9_ : M13 b9 = some (mZ E 12 ON) := by rw [eM13]; exact mUp_at (nd_ne hnd 9 0 rfl rfl (by decide)) g_b9
      have g_b10_ : M13 b10 = some (mI E 12 PH) := by rw [eM13]; exact mUp_at (nd_ne hnd 10 0 rfl rfl (by decide)) g_b10
      have g_b11_ : M13 b11 = some (mDb E 12 LE) := by rw [eM13]; exact mUp_at (nd_ne hnd 11 0 rfl rfl (by decide)) g_b11
      have g_b12_ : M13 b12 = some (mI E 8 KD) := by rw [eM13]; exact mUp_at (nd_ne hnd 12 0 rfl rfl (by decide)) g_b12
      have g_b13_ : M13 b13 = some (mI E 8 NM) := by rw [eM13]; exact mUp_at (nd_ne hnd 13 0 rfl rfl (by decide)) g_b13
      have g_b14_ : M13 b14 = some (mI E 3 CT) := by rw [eM13]; exact mUp_at (nd_ne hnd 14 0 rfl rfl (by decide)) g_b14
      have g_b15_ : M13 b15 = some (mDb E 40 CM) := by rw [eM13]; exact mUp_at (nd_ne hnd 15 0 rfl rfl (by decide)) g_b15
      have g_b16_ : M13 b16 = some (mJ E 40 MV) := by rw [eM13]; exact mUp_at (nd_ne hnd 16 0 rfl rfl (by decide)) g_b16
      have g_b1 := g_b1_
      have g_b2 := g_b2_
      have g_b3 := g_b3_
      have g_b4 := g_b4_
      have g_b5 := g_b5_
      have g_b6 := g_b6_
      have g_b7 := g_b7_
      have g_b8 := g_b8_
      have g_b9 := g_b9_
      have g_b10 := g_b10_
      have g_b11 := g_b11_
      have g_b12 := g_b12_
      have g_b13 := g_b13_
      have g_b14 := g_b14_
      have g_b15 := g_b15_
      have g_b16 := g_b16_
      have g_y : M13 y = some (mO 8 [.ref b1, .ref b2, .ref b3, .ref b4, .ref b5, .int (nI nn), .ref b6, .ref b7, .ref b8, .ref b9, .ref b10, .ref b11, .int (nI nf), .ref b12, .ref b13, .int bd, .int (if (-1 : Int32) < 0 then (-1 : Int32) else 0), .int fa, .ref b14, .ref b15, .ref b16]) := by rw [eM13]; exact mUp_self _ _ _
      have hk : kept (nol y b1 b2 b3 b4 b5 b6 b7 b8 b9 b10 b11 b12 b13 b14 b15 b16) M M13 := (by rw [eM13]; exact hk.up (nol_in 0 rfl))
      rw [if_pos (show (-1 : Int32) < 0 by decide)] at g_y
      exact m_iret hx hb hr hlocks hM hS (Nat.le_refl _) (Nat.le_refl _) dX10_copy_25 (by have hs : sCopy bk rw fr i to j k = -1 := sC_b hz; refine ⟨(by show _ = (if sCopy bk rw fr i to j k = 0 then 1 else sCopy bk rw fr i to j k); rw [hs]; rfl), ?_, hk⟩; show mR E _ y b1 b2 b3 b4 b5 b6 b7 b8 b9 b10 b11 b12 b13 b14 b15 b16 (nn, ins, nf, fn, bk, (if sCopy bk rw fr i to j k = 0 then _ else rw), bd, sCopy bk rw fr i to j k, c2, c3, c4); rw [hs]; rw [if_neg (by decide)]; exact ⟨_, _, _, _, _, _, _, _, _, _, _, _, _, _, _, _, _, ⟨g_y, g_b1, g_b2, g_b3, g_b4, g_b5, g_b6, g_b7, g_b8, g_b9, g_b10, g_b11, g_b12, g_b13, g_b14, g_b15, g_b16⟩, hB, hT, hR, hN, hF, hc2, hc3, hc4⟩)
