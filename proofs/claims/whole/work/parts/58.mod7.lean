theorem sAt_ne {bk : Nat → Option Nat} {rw : Nat → sRw} {b i : Int32} : (if (if sAt bk rw b i = 0 then 1 else sAt bk rw b i) < 0 then (if sAt bk rw b i = 0 then 1 else sAt bk rw b i) else 0) = sAt bk rw b i ∧ ((if sAt bk rw b i = 0 then (1 : Int32) else sAt bk rw b i) = 1 ↔ sAt bk rw b i = 0) := by
  have h : sAt bk rw b i = -1 ∨ sAt bk rw b i = -5 ∨ sAt bk rw b i = 0 ∨ sAt bk rw b i = -7 := by
    unfold sAt
    split
    · split
      · simp
      · split <;> simp
    · simp
  rcases h with h | h | h | h <;> rw [h] <;> decide
theorem sAt_0 {bk : Nat → Option Nat} {rw : Nat → sRw} {b i : Int32} (h : sAt bk rw b i = 0) : vB b ∧ ∃ w, bk b.toNatClampNeg = some w ∧ ¬ i < 0 ∧ ¬ nI (rw w).2.1 ≤ i := by
  unfold sAt at h
  split at h
  · rename_i hb
    refine ⟨hb, ?_⟩
    cases hbk : bk b.toNatClampNeg with
    | none => rw [hbk] at h; exact absurd (show (-5 : Int32) = 0 from h) (by decide)
    | some w =>
      rw [hbk] at h
      refine ⟨w, rfl, ?_⟩
      by_cases h1 : ¬ i < 0 ∧ ¬ nI (rw w).2.1 ≤ i
      · exact h1
      · have h2 : (if ¬ i < 0 ∧ ¬ nI (rw w).2.1 ≤ i then (0 : Int32) else -7) = 0 := h
        rw [if_neg h1] at h2
        exact absurd h2 (by decide)
  · exact absurd h (by decide)
theorem put_new {SM : Nat → Int64} {w z n q : Nat} {lane : Int32} {f : Nat → UInt64} {x : UInt64} (h : ∀ j, j < n → SM (40 * w + j) = sBits lane (f j)) (hz : z < n) (hq : q < n) : vp_updL SM (40 * w + z) (sBits lane x) (40 * w + q) = sBits lane (vf_upd f z x q) := by
  by_cases hqz : q = z
  · subst hqz; simp [vp_updL, vf_upd]
  · simp only [vp_updL, vf_upd, hqz, if_false]
    rw [if_neg (by omega)]
    exact h q hq
theorem put_old {SM : Nat → Int64} {w z r q : Nat} {v : Int64} (hr : r ≠ w) (hz : z < 40) (hq : q < 40) : vp_updL SM (40 * w + z) v (40 * r + q) = SM (40 * r + q) := by
  simp only [vp_updL]
  rw [if_neg (by omega)]
theorem at_no {bk : Nat → Option Nat} {rw : Nat → sRw} {b i : Int32} (h : ¬ sAt bk rw b i = 0) : (if vB b then (match bk b.toNatClampNeg with | none => 0 | some r => if ¬ i < 0 ∧ ¬ nI (rw r).2.1 ≤ i then sBits (rw r).1 ((rw r).2.2 i.toNatClampNeg) else 0) else (0 : Int64)) = 0 := by
  by_cases hb : vB b
  · rw [if_pos hb]
    unfold sAt at h
    rw [if_pos hb] at h
    cases hbk : bk b.toNatClampNeg with
    | none => rfl
    | some r =>
      rw [hbk] at h
      by_cases h1 : ¬ i < 0 ∧ ¬ nI (rw r).2.1 ≤ i
      · exact absurd (if_pos h1) h
      · exact if_neg h1
  · rw [if_neg hb]
theorem in_X10_at_X10 : ∀ w ∈ wsX100, w ∈ wsX10_at := by decide +kernel
set_option maxHeartbeats 4000000 in
set_option maxRecDepth 100000 in
theorem c_X10_at (l : Launch) (E : mEnv) (M : mMem) (sz : Nat) (y b1 b2 b3 b4 b5 b6 b7 b8 b9 b10 b11 b12 b13 b14 b15 b16 nn nf : Nat) (ins : Nat → sIn) (fn : Nat → Int32 × Int32) (bk : Nat → Option Nat) (rw : Nat → sRw) (bd st c2 c3 c4 : Int32) (hV : Inv (nn, ins, nf, fn, bk, rw, bd, st, c2, c3, c4)) (hC : mR E M y b1 b2 b3 b4 b5 b6 b7 b8 b9 b10 b11 b12 b13 b14 b15 b16 (nn, ins, nf, fn, bk, rw, bd, st, c2, c3, c4)) (hnd : [y, b1, b2, b3, b4, b5, b6, b7, b8, b9, b10, b11, b12, b13, b14, b15, b16].Nodup) (b i : Int32)    : Met l yX10_at wsX10_at ({ frames := 2, cells := 0, slots := 0, locals := 45 }) (mPre E M sz [.ref y, .int b, .int i]) (mQl E M sz (fun r u => r = aAt (nn, ins, nf, fn, bk, rw, bd, st, c2, c3, c4) b i ∧ mR E u y b1 b2 b3 b4 b5 b6 b7 b8 b9 b10 b11 b12 b13 b14 b15 b16 (nAt (nn, ins, nf, fn, bk, rw, bd, st, c2, c3, c4) b i) ∧ kept (nol y b1 b2 b3 b4 b5 b6 b7 b8 b9 b10 b11 b12 b13 b14 b15 b16) M u)) (0) (0) (mA M sz) := by
  refine m_met [.ref y, .int b, .int i] (by decide) rfl (Nat.le_of_ble_eq_true rfl) ?_
  intro p e s m below meth c ls H eH hx hb hr hts hown hlocks hnm hml hsz hE hM hS hA hl
  have hl : lv_has ls 3 [(0, .ref y), (1, .int b), (2, .int i)] := hl
  have hC0 := hC
  obtain ⟨fa, B, T, LN, SZ, SM, SO, KN, PI, ON, PH, LE, KD, NM, CT, CM, MV, ⟨g_y, g_b1, g_b2, g_b3, g_b4, g_b5, g_b6, g_b7, g_b8, g_b9, g_b10, g_b11, g_b12, g_b13, g_b14, g_b15, g_b16⟩, hB, hT, hR, hN, hF, hc2, hc3, hc4⟩ := hC
  have hiK := hV.insK
  have h24t := hV.tb24
  have h40 := hV.n40
  obtain ⟨hnn, hnf, hvI, hvD, hv24, hvR, hvF⟩ := id hV
  have h24 : ∀ k, k < 10 → ∀ r, bk k = some r → r < 24 := fun k hk r hr => hv24 r (Or.inl ⟨k, hk, hr⟩)
  have hk : kept (nol y b1 b2 b3 b4 b5 b6 b7 b8 b9 b10 b11 b12 b13 b14 b15 b16) M M := kept.rf
  refine lv_aload_n hx hb dX10_at_0 rfl (lv_at hl 0 rfl) ?_
  refine lv_aload_n hx hb dX10_at_1 rfl (lv_at hl 0 rfl) ?_
  refine lv_iload_n hx hb dX10_at_2 rfl (lv_at hl 1 rfl) ?_
  refine lv_iload_n hx hb dX10_at_3 rfl (lv_at hl 2 rfl) ?_
  refine m_calli (va_runV (As := [.int b, .int i]) (rest := [.ref y]) ⟨hx, hb, hml, hown, hts⟩ (c_X10_reach l E M H.size y b1 b2 b3 b4 b5 b6 b7 b8 b9 b10 b11 b12 b13 b14 b15 b16 (nI nn) (nI nf) bd st fa B SZ bk rw b i hB (fun k hk r hr => ⟨hv24 r (Or.inl ⟨k, hk, hr⟩), (hR r (Or.inl ⟨k, hk, hr⟩) _ _ _ rfl).2.1, h40 r (Or.inl ⟨k, hk, hr⟩)⟩) g_y g_b1 g_b4) (cwV 2 hts gX10_at_X10_reach rfl rfl rfl (by decide +kernel) ⟨Nat.le_of_ble_eq_true rfl, Nat.le_of_ble_eq_true rfl⟩) (m_preV hE hM g_y rfl) rfl rfl hl.1 rfl (lv_room (Nat.le_of_ble_eq_true rfl)) dX10_at_4 ⟨Nat.le_of_ble_eq_true rfl, Nat.le_of_ble_eq_true rfl⟩) hM hS hA (fun r1 u H locs hw hM hS => ?_)
  obtain ⟨e_r1, eu⟩ := hw
  rw [eu] at hM
  subst e_r1
  refine m_calli (va_runV (As := [.int (if sAt bk rw b i = 0 then 1 else sAt bk rw b i)]) (rest := []) ⟨hx, hb, hml, hown, hts⟩ (c_X10_says l E M H.size y b1 b2 b3 b4 b5 b6 b7 b8 b9 b10 b11 b12 b13 b14 b15 b16 (nI nn) (nI nf) bd st fa (if sAt bk rw b i = 0 then 1 else sAt bk rw b i) g_y) (cwV 1 hts gX10_at_X10_says rfl rfl rfl (by decide +kernel) ⟨Nat.le_of_ble_eq_true rfl, Nat.le_of_ble_eq_true rfl⟩) (m_preV hE hM g_y rfl) rfl rfl hl.1 rfl (lv_room (Nat.le_of_ble_eq_true rfl)) dX10_at_7 ⟨Nat.le_of_ble_eq_true rfl, Nat.le_of_ble_eq_true rfl⟩) hM hS hA (fun r2 M1 H locs hw hM hS => ?_)
  obtain ⟨e_r2, eM1⟩ := hw
  subst e_r2
  have g_b1_ : M1 b1 = some (mI E 10 B) := by rw [eM1]; exact mUp_at (nd_ne hnd 1 0 rfl rfl (by decide)) g_b1
  have g_b2_ : M1 b2 = some (mI E 12 T) := by rw [eM1]; exact mUp_at (nd_ne hnd 2 0 rfl rfl (by decide)) g_b2
  have g_b3_ : M1 b3 = some (mI E 24 LN) := by rw [eM1]; exact mUp_at (nd_ne hnd 3 0 rfl rfl (by decide)) g_b3
  have g_b4_ : M1 b4 = some (mI E 24 SZ) := by rw [eM1]; exact mUp_at (nd_ne hnd 4 0 rfl rfl (by decide)) g_b4
  have g_b5_ : M1 b5 = some (mJ E 960 SM) := by rw [eM1]; exact mUp_at (nd_ne hnd 5 0 rfl rfl (by decide)) g_b5
  have g_b6_ : M1 b6 = some (mI E 12 SO) := by rw [eM1]; exact mUp_at (nd_ne hnd 6 0 rfl rfl (by decide)) g_b6
  have g_b7_ : M1 b7 = some (mI E 48 KN) := by rw [eM1]; exact mUp_at (nd_ne hnd 7 0 rfl rfl (by decide)) g_b7
  have g_b8_ : M1 b8 = some (mI E 12 PI) := by rw [eM1]; exact mUp_at (nd_ne hnd 8 0 rfl rfl (by decide)) g_b8
  have g_b9_ : M1 b9 = some (mZ E 12 ON) := by rw [eM1]; exact mUp_at (nd_ne hnd 9 0 rfl rfl (by decide)) g_b9
  have g_b10_ : M1 b10 = some (mI E 12 PH) := by rw [eM1]; exact mUp_at (nd_ne hnd 10 0 rfl rfl (by decide)) g_b10
  have g_b11_ : M1 b11 = some (mDb E 12 LE) := by rw [eM1]; exact mUp_at (nd_ne hnd 11 0 rfl rfl (by decide)) g_b11
  have g_b12_ : M1 b12 = some (mI E 8 KD) := by rw [eM1]; exact mUp_at (nd_ne hnd 12 0 rfl rfl (by decide)) g_b12
  have g_b13_ : M1 b13 = some (mI E 8 NM) := by rw [eM1]; exact mUp_at (nd_ne hnd 13 0 rfl rfl (by decide)) g_b13
  have g_b14_ : M1 b14 = some (mI E 3 CT) := by rw [eM1]; exact mUp_at (nd_ne hnd 14 0 rfl rfl (by decide)) g_b14
  have g_b15_ : M1 b15 = some (mDb E 40 CM) := by rw [eM1]; exact mUp_at (nd_ne hnd 15 0 rfl rfl (by decide)) g_b15
  have g_b16_ : M1 b16 = some (mJ E 40 MV) := by rw [eM1]; exact mUp_at (nd_ne hnd 16 0 rfl rfl (by decide)) g_b16
  have g_b1 := g_b1_
  have g_b2 := g_b2_
  have g_b3 := g_b3_
  have g_b4 := g_b4_
  have g_b5 := g_b5_
  have g_b6 := g_b6_
  have g_b7 := g_b7_
  have g_b8 := g_b8_
  have g_b9 := g_b9_
  have g_b10 := g_b10_
  have g_b11 := g_b11_
  have g_b12 := g_b12_
  have g_b13 := g_b13_
  have g_b14 := g_b14_
  have g_b15 := g_b15_
  have g_b16 := g_b16_
  have g_y : M1 y = some (mO 8 [.ref b1, .ref b2, .ref b3, .ref b4, .ref b5, .int (nI nn), .ref b6, .ref b7, .ref b8, .ref b9, .ref b10, .ref b11, .int (nI nf), .ref b12, .ref b13, .int bd, .int (if (if sAt bk rw b i = 0 then 1 else sAt bk rw b i) < 0 then if sAt bk rw b i = 0 then 1 else sAt bk rw b i else 0), .int fa, .ref b14, .ref b15, .ref b16]) := by rw [eM1]; exact mUp_self _ _ _
  have hk : kept (nol y b1 b2 b3 b4 b5 b6 b7 b8 b9 b10 b11 b12 b13 b14 b15 b16) M M1 := (by rw [eM1]; exact hk.up (nol_in 0 rfl))
  rw [sAt_ne.1] at g_y
  refine lv_iconst (v := 1) hx hb dX10_at_10 (by decide) ?_
  refine lv_icmp_ne (tgt := 33) hx hb dX10_at_11 (by decide) (fun c_11 => ?_) (fun c_11 => ?_)
  · skip
    have h0 : ¬ sAt bk rw b i = 0 := fun q => c_11 (sAt_ne.2.mpr q)
    refine lv_lconst (v := 0) hx hb dX10_at_33 (by decide) ?_
    exact m_lret hx hb hr hlocks hM hS (Nat.le_refl _) (Nat.le_refl _) dX10_at_34 (by refine ⟨(at_no h0).symm, ⟨_, _, _, _, _, _, _, _, _, _, _, _, _, _, _, _, _, ⟨g_y, g_b1, g_b2, g_b3, g_b4, g_b5, g_b6, g_b7, g_b8, g_b9, g_b10, g_b11, g_b12, g_b13, g_b14, g_b15, g_b16⟩, hB, hT, hR, hN, hF, hc2, hc3, hc4⟩, hk⟩)
  · skip
    have h0 : sAt bk rw b i = 0 := sAt_ne.2.mp c_11
    obtain ⟨hvb, w, hbk, hii⟩ := sAt_0 h0
    obtain ⟨jb, hjb, hbj, hjbc⟩ := vB_ix hvb
    rw [hjbc] at hbk
    have hbin : vp_in b 10 := (by rw [hbj]; exact vp_in_nI (by omega) (by decide))
    have hlv : live nn ins bk w := Or.inl ⟨jb, hjb, hbk⟩
    rcases hrw : rw w with ⟨lane, n0, f0⟩
    obtain ⟨hLn, hSz, hSm⟩ := hR w hlv _ _ _ hrw
    have hw24 := hv24 w hlv
    obtain ⟨hn40, hlane, hvo⟩ := hvR w hlv _ _ _ hrw
    rw [hrw] at hii
    have hii : ¬ i < 0 ∧ ¬ nI n0 ≤ i := hii
    obtain ⟨iz, hz, hzz⟩ := vp_in_of (vp_in_h hii (by omega)) (by omega)
    have hix : (40 : Int32) * nI w + i = nI (40 * w + iz) := (by rw [hzz]; exact k40 w iz)
    have hzc : i.toNatClampNeg = iz := (by rw [hzz, nI_clamp (by omega)])
    refine lv_aload_n hx hb dX10_at_14 rfl (lv_at hl 0 rfl) ?_
    refine m_get (ci := 8) (v := .ref b5) (C := RX10) (T := TX10) (N := 21) hx hb hts in_X10_at_X10 hown hE hM g_y rfl 4 (by decide) (hts (.fieldLink RX10 22 "CallWays2Model" "samples" "[J") (by decide +kernel)) (fun _ h9 => h9) rfl dX10_at_15 ?_
    refine lv_bipush (v := 40) hx hb dX10_at_18 (by decide) ?_
    refine lv_aload_n hx hb dX10_at_20 rfl (lv_at hl 0 rfl) ?_
    refine m_get (ci := 8) (v := .ref b1) (C := RX10) (T := TX10) (N := 21) hx hb hts in_X10_at_X10 hown hE hM g_y rfl 0 (by decide) (hts (.fieldLink RX10 7 "CallWays2Model" "blocks" "[I") (by decide +kernel)) (fun _ h9 => h9) rfl dX10_at_21 ?_
    refine lv_iload_n hx hb dX10_at_24 rfl (lv_at hl 1 rfl) ?_
    refine m_iald hx hb hE hM g_b1 hbin dX10_at_25 ?_
    rw [show B b.toNatClampNeg = nI w from by rw [hjbc]; exact (hB jb hjb).trans (by rw [hbk]; rfl)]
    refine lv_imul hx hb dX10_at_26 ?_
    refine lv_iload_n hx hb dX10_at_27 rfl (lv_at hl 2 rfl) ?_
    refine lv_iadd hx hb dX10_at_28 ?_
    rw [hix]
    refine m_lald hx hb hE hM g_b5 (in_k40 hw24 (by omega)) dX10_at_29 ?_
    rw [show SM (nI (40 * w + iz)).toNatClampNeg = sBits lane (f0 iz) from by rw [nI_clamp (by omega)]; exact hSm iz hz]
    refine lv_goto (tgt := 34) hx hb dX10_at_30 (by decide) ?_
    exact m_lret hx hb hr hlocks hM hS (Nat.le_refl _) (Nat.le_refl _) dX10_at_34 (by refine ⟨?_, ⟨_, _, _, _, _, _, _, _, _, _, _, _, _, _, _, _, _, ⟨g_y, g_b1, g_b2, g_b3, g_b4, g_b5, g_b6, g_b7, g_b8, g_b9, g_b10, g_b11, g_b12, g_b13, g_b14, g_b15, g_b16⟩, hB, hT, hR, hN, hF, hc2, hc3, hc4⟩, hk⟩; show _ = (if vB b then _ else _); rw [if_pos hvb, hjbc, hbk]; show _ = (if ¬ i < 0 ∧ ¬ nI (rw w).2.1 ≤ i then sBits (rw w).1 ((rw w).2.2 i.toNatClampNeg) else 0); rw [hrw, hzc]; exact (if_pos hii).symm)
theorem in_X10_put_X10 : ∀ w ∈ wsX100, w ∈ wsX10_put := by decide +kernel
set_option maxHeartbeats 4000000 in
set_option maxRecDepth 100000 in
theorem c_X10_put (l : Launch) (E : mEnv) (M : mMem) (sz : Nat) (y b1 b2 b3 b4 b5 b6 b7 b8 b9 b10 b11 b12 b13 b14 b15 b16 nn nf : Nat) (ins : Nat → sIn) (fn : Nat → Int32 × Int32) (bk : Nat → Option Nat) (rw : Nat → sRw) (bd st c2 c3 c4 : Int32) (hV : Inv (nn, ins, nf, fn, bk, rw, bd, st, c2, c3, c4)) (hC : mR E M y b1 b2 b3 b4 b5 b6 b7 b8 b9 b10 b11 b12 b13 b14 b15 b16 (nn, ins, nf, fn, bk, rw, bd, st, c2, c3, c4)) (hnd : [y, b1, b2, b3, b4, b5, b6, b7, b8, b9, b10, b11, b12, b13, b14, b15, b16].Nodup) (b i v : Int32)    : Met l yX10_put wsX10_put ({ frames := 3, cells := 0, slots := 0, locals := 73 }) (mPre E M sz [.ref y, .int b, .int i, .int v]) (mQi E M sz (fun r u => r = aPut (nn, ins, nf, fn, bk, rw, bd, st, c2, c3, c4) b i v ∧ mR E u y b1 b2 b3 b4 b5 b6 b7 b8 b9 b10 b11 b12 b13 b14 b15 b16 (nPut (nn, ins, nf, fn, bk, rw, bd, st, c2, c3, c4) b i v) ∧ kept (nol y b1 b2 b3 b4 b5 b6 b7 b8 b9 b10 b11 b12 b13 b14 b15 b16) M u)) (0) (0) (mA M sz) := by
  refine m_met [.ref y, .int b, .int i, .int v] (by decide) rfl (Nat.le_of_ble_eq_true rfl) ?_
  intro p e s m below meth c ls H eH hx hb hr hts hown hlocks hnm hml hsz hE hM hS hA hl
  have hl : lv_has ls 4 [(0, .ref y), (1, .int b), (2, .int i), (3, .int v)] := hl
  have hC0 := hC
  obtain ⟨fa, B, T, LN, SZ, SM, SO, KN, PI, ON, PH, LE, KD, NM, CT, CM, MV, ⟨g_y, g_b1, g_b2, g_b3, g_b4, g_b5, g_b6, g_b7, g_b8, g_b9, g_b10, g_b11, g_b12, g_b13, g_b14, g_b15, g_b16⟩, hB, hT, hR, hN, hF, hc2, hc3, hc4⟩ := hC
  have hiK := hV.insK
  have h24t := hV.tb24
  have h40 := hV.n40
  obtain ⟨hnn, hnf, hvI, hvD, hv24, hvR, hvF⟩ := id hV
  have h24 : ∀ k, k < 10 → ∀ r, bk k = some r → r < 24 := fun k hk r hr => hv24 r (Or.inl ⟨k, hk, hr⟩)
  have hk : kept (nol y b1 b2 b3 b4 b5 b6 b7 b8 b9 b10 b11 b12 b13 b14 b15 b16) M M := kept.rf
  refine lv_aload_n hx hb dX10_put_0 rfl (lv_at hl 0 rfl) ?_
  refine lv_aload_n hx hb dX10_put_1 rfl (lv_at hl 0 rfl) ?_
  refine lv_iload_n hx hb dX10_put_2 rfl (lv_at hl 1 rfl) ?_
  refine lv_iload_n hx hb dX10_put_3 rfl (lv_at hl 2 rfl) ?_
  refine m_calli (va_runV (As := [.int b, .int i]) (rest := [.ref y]) ⟨hx, hb, hml, hown, hts⟩ (c_X10_reach l E M H.size y b1 b2 b3 b4 b5 b6 b7 b8 b9 b10 b11 b12 b13 b14 b15 b16 (nI nn) (nI nf) bd st fa B SZ bk rw b i hB (fun k hk r hr => ⟨hv24 r (Or.inl ⟨k, hk, hr⟩), (hR r (Or.inl ⟨k, hk, hr⟩) _ _ _ rfl).2.1, h40 r (Or.inl ⟨k, hk, hr⟩)⟩) g_y g_b1 g_b4) (cwV 2 hts gX10_put_X10_reach rfl rfl rfl (by decide +kernel) ⟨Nat.le_of_ble_eq_true rfl, Nat.le_of_ble_eq_true rfl⟩) (m_preV hE hM g_y rfl) rfl rfl hl.1 rfl (lv_room (Nat.le_of_ble_eq_true rfl)) dX10_put_4 ⟨Nat.le_of_ble_eq_true rfl, Nat.le_of_ble_eq_true rfl⟩) hM hS hA (fun r1 u H locs hw hM hS => ?_)
  obtain ⟨e_r1, eu⟩ := hw
  rw [eu] at hM
  subst e_r1
  refine m_calli (va_runV (As := [.int (if sAt bk rw b i = 0 then 1 else sAt bk rw b i)]) (rest := []) ⟨hx, hb, hml, hown, hts⟩ (c_X10_says l E M H.size y b1 b2 b3 b4 b5 b6 b7 b8 b9 b10 b11 b12 b13 b14 b15 b16 (nI nn) (nI nf) bd st fa (if sAt bk rw b i = 0 then 1 else sAt bk rw b i) g_y) (cwV 1 hts gX10_put_X10_says rfl rfl rfl (by decide +kernel) ⟨Nat.le_of_ble_eq_true rfl, Nat.le_of_ble_eq_true rfl⟩) (m_preV hE hM g_y rfl) rfl rfl hl.1 rfl (lv_room (Nat.le_of_ble_eq_true rfl)) dX10_put_7 ⟨Nat.le_of_ble_eq_true rfl, Nat.le_of_ble_eq_true rfl⟩) hM hS hA (fun r2 M1 H locs hw hM hS => ?_)
  obtain ⟨e_r2, eM1⟩ := hw
  subst e_r2
  have g_b1_ : M1 b1 = some (mI E 10 B) := by rw [eM1]; exact mUp_at (nd_ne hnd 1 0 rfl rfl (by decide)) g_b1
  have g_b2_ : M1 b2 = some (mI E 12 T) := by rw [eM1]; exact mUp_at (nd_ne hnd 2 0 rfl rfl (by decide)) g_b2
  have g_b3_ : M1 b3 = some (mI E 24 LN) := by rw [eM1]; exact mUp_at (nd_ne hnd 3 0 rfl rfl (by decide)) g_b3
  have g_b4_ : M1 b4 = some (mI E 24 SZ) := by rw [eM1]; exact mUp_at (nd_ne hnd 4 0 rfl rfl (by decide)) g_b4
  have g_b5_ : M1 b5 = some (mJ E 960 SM) := by rw [eM1]; exact mUp_at (nd_ne hnd 5 0 rfl rfl (by decide)) g_b5
  have g_b6_ : M1 b6 = some (mI E 12 SO) := by rw [eM1]; exact mUp_at (nd_ne hnd 6 0 rfl rfl (by decide)) g_b6
  have g_b7_ : M1 b7 = some (mI E 48 KN) := by rw [eM1]; exact mUp_at (nd_ne hnd 7 0 rfl rfl (by decide)) g_b7
  have g_b8_ : M1 b8 = some (mI E 12 PI) := by rw [eM1]; exact mUp_at (nd_ne hnd 8 0 rfl rfl (by decide)) g_b8
  have g_b9_ : M1 b9 = some (mZ E 12 ON) := by rw [eM1]; exact mUp_at (nd_ne hnd 9 0 rfl rfl (by decide)) g_b9
  have g_b10_ : M1 b10 = some (mI E 12 PH) := by rw [eM1]; exact mUp_at (nd_ne hnd 10 0 rfl rfl (by decide)) g_b10
  have g_b11_ : M1 b11 = some (mDb E 12 LE) := by rw [eM1]; exact mUp_at (nd_ne hnd 11 0 rfl rfl (by decide)) g_b11
  have g_b12_ : M1 b12 = some (mI E 8 KD) := by rw [eM1]; exact mUp_at (nd_ne hnd 12 0 rfl rfl (by decide)) g_b12
  have g_b13_ : M1 b13 = some (mI E 8 NM) := by rw [eM1]; exact mUp_at (nd_ne hnd 13 0 rfl rfl (by decide)) g_b13
  have g_b14_ : M1 b14 = some (mI E 3 CT) := by rw [eM1]; exact mUp_at (nd_ne hnd 14 0 rfl rfl (by decide)) g_b14
  have g_b15_ : M1 b15 = some (mDb E 40 CM) := by rw [eM1]; exact mUp_at (nd_ne hnd 15 0 rfl rfl (by decide)) g_b15
  have g_b16_ : M1 b16 = some (mJ E 40 MV) := by rw [eM1]; exact mUp_at (nd_ne hnd 16 0 rfl rfl (by decide)) g_b16
  have g_b1 := g_b1_
  have g_b2 := g_b2_
  have g_b3 := g_b3_
  have g_b4 := g_b4_
  have g_b5 := g_b5_
  have g_b6 := g_b6_
  have g_b7 := g_b7_
  have g_b8 := g_b8_
  have g_b9 := g_b9_
  have g_b10 := g_b10_
  have g_b11 := g_b11_
  have g_b12 := g_b12_
  have g_b13 := g_b13_
  have g_b14 := g_b14_
  have g_b15 := g_b15_
  have g_b16 := g_b16_
  have g_y : M1 y = some (mO 8 [.ref b1, .ref b2, .ref b3, .ref b4, .ref b5, .int (nI nn), .ref b6, .ref b7, .ref b8, .ref b9, .ref b10, .ref b11, .int (nI nf), .ref b12, .ref b13, .int bd, .int (if (if sAt bk rw b i = 0 then 1 else sAt bk rw b i) < 0 then if sAt bk rw b i = 0 then 1 else sAt bk rw b i else 0), .int fa, .ref b14, .ref b15, .ref b16]) := by rw [eM1]; exact mUp_self _ _ _
  have hk : kept (nol y b1 b2 b3 b4 b5 b6 b7 b8 b9 b10 b11 b12 b13 b14 b15 b16) M M1 := (by rw [eM1]; exact hk.up (nol_in 0 rfl))
  rw [sAt_ne.1] at g_y
  refine lv_iconst (v := 1) hx hb dX10_put_10 (by decide) ?_
  refine lv_icmp_eq (tgt := 19) hx hb dX10_put_11 (by decide) (fun c_11 => ?_) (fun c_11 => ?_)
  · skip
    have h0 : sAt bk rw b i = 0 := sAt_ne.2.mp c_11
    obtain ⟨hvb, w, hbk, hii⟩ := sAt_0 h0
    obtain ⟨jb, hjb, hbj, hjbc⟩ := vB_ix hvb
    rw [hjbc] at hbk
    have hbin : vp_in b 10 := (by rw [hbj]; exact vp_in_nI (by omega) (by decide))
    have hlv : live nn ins bk w := Or.inl ⟨jb, hjb, hbk⟩
    rcases hrw : rw w with ⟨lane, n0, f0⟩
    obtain ⟨hLn, hSz, hSm⟩ := hR w hlv _ _ _ hrw
    have hw24 := hv24 w hlv
    obtain ⟨hn40, hlane, hvo⟩ := hvR w hlv _ _ _ hrw
    rw [hrw] at hii
    have hii : ¬ i < 0 ∧ ¬ nI n0 ≤ i := hii
    obtain ⟨iz, hz, hzz⟩ := vp_in_of (vp_in_h hii (by omega)) (by omega)
    have hix : (40 : Int32) * nI w + i = nI (40 * w + iz) := (by rw [hzz]; exact k40 w iz)
    have hzc : i.toNatClampNeg = iz := (by rw [hzz, nI_clamp (by omega)])
    refine lv_aload_n hx hb dX10_put_19 rfl (lv_at hl 0 rfl) ?_
    refine m_get (ci := 8) (v := .ref b5) (C := RX10) (T := TX10) (N := 21) hx hb hts in_X10_put_X10 hown hE hM g_y rfl 4 (by decide) (hts (.fieldLink RX10 22 "CallWays2Model" "samples" "[J") (by decide +kernel)) (fun _ h9 => h9) rfl dX10_put_20 ?_
    refine lv_bipush (v := 40) hx hb dX10_put_23 (by decide) ?_
    refine lv_aload_n hx hb dX10_put_25 rfl (lv_at hl 0 rfl) ?_
    refine m_get (ci := 8) (v := .ref b1) (C := RX10) (T := TX10) (N := 21) hx hb hts in_X10_put_X10 hown hE hM g_y rfl 0 (by decide) (hts (.fieldLink RX10 7 "CallWays2Model" "blocks" "[I") (by decide +kernel)) (fun _ h9 => h9) rfl dX10_put_26 ?_
    refine lv_iload_n hx hb dX10_put_29 rfl (lv_at hl 1 rfl) ?_
    refine m_iald hx hb hE hM g_b1 hbin dX10_put_30 ?_
    rw [show B b.toNatClampNeg = nI w from by rw [hjbc]; exact (hB jb hjb).trans (by rw [hbk]; rfl)]
    refine lv_imul hx hb dX10_put_31 ?_
    refine lv_iload_n hx hb dX10_put_32 rfl (lv_at hl 2 rfl) ?_
    refine lv_iadd hx hb dX10_put_33 ?_
    refine lv_aload_n hx hb dX10_put_34 rfl (lv_at hl 0 rfl) ?_
    refine m_get (ci := 8) (v := .ref b3) (C := RX10) (T := TX10) (N := 21) hx hb hts in_X10_put_X10 hown hE hM g_y rfl 2 (by decide) (hts (.fieldLink RX10 16 "CallWays2Model" "laneOf" "[I") (by decide +kernel)) (fun _ h9 => h9) rfl dX10_put_35 ?_
    refine lv_aload_n hx hb dX10_put_38 rfl (lv_at hl 0 rfl) ?_
    refine m_get (ci := 8) (v := .ref b1) (C := RX10) (T := TX10) (N := 21) hx hb hts in_X10_put_X10 hown hE hM g_y rfl 0 (by decide) (hts (.fieldLink RX10 7 "CallWays2Model" "blocks" "[I") (by decide +kernel)) (fun _ h9 => h9) rfl dX10_put_39 ?_
    refine lv_iload_n hx hb dX10_put_42 rfl (lv_at hl 1 rfl) ?_
    refine m_iald hx hb hE hM g_b1 hbin dX10_put_43 ?_
    rw [show B b.toNatClampNeg = nI w from by rw [hjbc]; exact (hB jb hjb).trans (by rw [hbk]; rfl)]
    refine m_iald hx hb hE hM g_b3 (vp_in_nI hw24 (by decide)) dX10_put_44 ?_
    rw [show LN (nI w).toNatClampNeg = lane from by rw [nI_clamp (by omega), hLn]]
    refine lv_iload_n hx hb dX10_put_45 rfl (lv_at hl 3 rfl) ?_
    refine lv_i2d hx hb dX10_put_46 ?_
    refine m_calll (va_runS (As := [.int lane, .double (FP.i2d v)]) (rest := [.int ((40 * (nI w)) + i), .ref b5]) ⟨hx, hb, hml, hown, hts⟩ (c_X10_cast l E M1 H.size lane (FP.i2d v) (fin_i2d v) hlane) (va_cwS 2 hts gX10_put_X10_cast rfl rfl rfl (by decide +kernel) ⟨Nat.le_of_ble_eq_true rfl, Nat.le_of_ble_eq_true rfl⟩) (m_preS hE hM) rfl rfl hl.1 rfl (lv_room (Nat.le_of_ble_eq_true rfl)) dX10_put_47 ⟨Nat.le_of_ble_eq_true rfl, Nat.le_of_ble_eq_true rfl⟩) hM hS hA (fun r3 u H locs hw hM hS => ?_)
    obtain ⟨e_r3, eu⟩ := hw
    rw [eu] at hM
    subst e_r3
    rw [hix]
    refine m_last hx hb hE hM hS g_b5 (in_k40 hw24 (by omega)) dX10_put_50 (fun H locs hM hS => ?_)
    rw [show vp_updL SM (nI (40 * w + iz)).toNatClampNeg (sBits lane (sTurn lane (FP.i2d v))) = vp_updL SM (40 * w + iz) (sBits lane (sTurn lane (FP.i2d v))) from by rw [nI_clamp (by omega)]] at hM
    have hM : mOK E.1 (mA M sz) (mUp M1 b5 (mJ E 960 (vp_updL SM (40 * w + iz) (sBits lane (sTurn lane (FP.i2d v)))))) H := hM
    obtain ⟨M2, eM2⟩ : ∃ z, z = mUp M1 b5 (mJ E 960 (vp_updL SM (40 * w + iz) (sBits lane (sTurn lane (FP.i2d v))))) := ⟨_, rfl⟩
    rw [← eM2] at hM
    have g_y_ : M2 y = some (mO 8 [.ref b1, .ref b2, .ref b3, .ref b4, .ref b5, .int (nI nn), .ref b6, .ref b7, .ref b8, .ref b9, .ref b10, .ref b11, .int (nI nf), .ref b12, .ref b13, .int bd, .int (sAt bk rw b i), .int fa, .ref b14, .ref b15, .ref b16]) := by rw [eM2]; exact mUp_at (nd_ne hnd 0 5 rfl rfl (by decide)) g_y
    have g_b1_ : M2 b1 = some (mI E 10 B) := by rw [eM2]; exact mUp_at (nd_ne hnd 1 5 rfl rfl (by decide)) g_b1
    have g_b2_ : M2 b2 = some (mI E 12 T) := by rw [eM2]; exact mUp_at (nd_ne hnd 2 5 rfl rfl (by decide)) g_b2
    have g_b3_ : M2 b3 = some (mI E 24 LN) := by rw [eM2]; exact mUp_at (nd_ne hnd 3 5 rfl rfl (by decide)) g_b3
    have g_b4_ : M2 b4 = some (mI E 24 SZ) := by rw [eM2]; exact mUp_at (nd_ne hnd 4 5 rfl rfl (by decide)) g_b4
    have g_b6_ : M2 b6 = some (mI E 12 SO) := by rw [eM2]; exact mUp_at (nd_ne hnd 6 5 rfl rfl (by decide)) g_b6
    have g_b7_ : M2 b7 = some (mI E 48 KN) := by rw [eM2]; exact mUp_at (nd_ne hnd 7 5 rfl rfl (by decide)) g_b7
    have g_b8_ : M2 b8 = some (mI E 12 PI) := by rw [eM2]; exact mUp_at (nd_ne hnd 8 5 rfl rfl (by decide)) g_b8
    have g_b9_ : M2 b9 = some (mZ E 12 ON) := by rw [eM2]; exact mUp_at (nd_ne hnd 9 5 rfl rfl (by decide)) g_b9
    have g_b10_ : M2 b10 = some (mI E 12 PH) := by rw [eM2]; exact mUp_at (nd_ne hnd 10 5 rfl rfl (by decide)) g_b10
    have g_b11_ : M2 b11 = some (mDb E 12 LE) := by rw [eM2]; exact mUp_at (nd_ne hnd 11 5 rfl rfl (by decide)) g_b11
    have g_b12_ : M2 b12 = some (mI E 8 KD) := by rw [eM2]; exact mUp_at (nd_ne hnd 12 5 rfl rfl (by decide)) g_b12
    have g_b13_ : M2 b13 = some (mI E 8 NM) := by rw [eM2]; exact mUp_at (nd_ne hnd 13 5 rfl rfl (by decide)) g_b13
    have g_b14_ : M2 b14 = some (mI E 3 CT) := by rw [eM2]; exact mUp_at (nd_ne hnd 14 5 rfl rfl (by decide)) g_b14
    have g_b15_ : M2 b15 = some (mDb E 40 CM) := by rw [eM2]; exact mUp_at (nd_ne hnd 15 5 rfl rfl (by decide)) g_b15
    have g_b16_ : M2 b16 = some (mJ E 40 MV) := by rw [eM2]; exact mUp_at (nd_ne hnd 16 5 rfl rfl (by decide)) g_b16
    have g_y := g_y_
    have g_b1 := g_b1_
    have g_b2 := g_b2_
    have g_b3 := g_b3_
    have g_b4 := g_b4_
    have g_b6 := g_b6_
    have g_b7 := g_b7_
    have g_b8 := g_b8_
    have g_b9 := g_b9_
    have g_b10 := g_b10_
    have g_b11 := g_b11_
    have g_b12 := g_b12_
    have g_b13 := g_b13_
    have g_b14 := g_b14_
    have g_b15 := g_b15_
    have g_b16 := g_b16_
    have g_b5 : M2 b5 = some (mJ E 960 (vp_updL SM (40 * w + iz) (sBits lane (sTurn lane (FP.i2d v))))) := by rw [eM2]; exact mUp_self _ _ _
    have hk : kept (nol y b1 b2 b3 b4 b5 b6 b7 b8 b9 b10 b11 b12 b13 b14 b15 b16) M M2 := (by rw [eM2]; exact hk.up (nol_in 5 rfl))
    refine lv_iconst (v := 1) hx hb dX10_put_51 (by decide) ?_
    exact m_iret hx hb hr hlocks hM hS (Nat.le_refl _) (Nat.le_refl _) dX10_put_52 (by refine ⟨(if_pos h0).symm, ?_, hk⟩; show mR E _ y b1 b2 b3 b4 b5 b6 b7 b8 b9 b10 b11 b12 b13 b14 b15 b16 (nn, ins, nf, fn, bk, rPut bk rw b i v, bd, sAt bk rw b i, c2, c3, c4); have hrp : rPut bk rw b i v = va_up rw w (lane, n0, vf_upd f0 iz (sTurn lane (FP.i2d v))) := (by unfold rPut; rw [if_pos h0, hjbc, hbk]; show va_up rw w ((rw w).1, (rw w).2.1, vf_upd (rw w).2.2 i.toNatClampNeg (sTurn (rw w).1 (FP.i2d v))) = _; rw [hrw, hzc]); rw [hrp]; exact ⟨_, _, _, _, _, _, _, _, _, _, _, _, _, _, _, _, _, ⟨g_y, g_b1, g_b2, g_b3, g_b4, g_b5, g_b6, g_b7, g_b8, g_b9, g_b10, g_b11, g_b12, g_b13, g_b14, g_b15, g_b16⟩, hB, hT, (hR.set hlv hrw h40 (fun q hq => put_new hSm hz hq) (fun r hr q hq => put_old hr (by omega) hq)), hN, hF, hc2, hc3, hc4⟩)
  · skip
    have h0 : ¬ sAt bk rw b i = 0 := fun q => c_11 (sAt_ne.2.mpr q)
    refine lv_aload_n hx hb dX10_put_14 rfl (lv_at hl 0 rfl) ?_
    refine m_get (ci := 8) (v := .int (sAt bk rw b i)) (C := RX10) (T := TX10) (N := 21) hx hb hts in_X10_put_X10 hown hE hM g_y rfl 16 (by decide) (hts (.fieldLink RX10 72 "CallWays2Model" "stateNow" "I") (by decide +kernel)) (fun _ h9 => h9) rfl dX10_put_15 ?_
    exact m_iret hx hb hr hlocks hM hS (Nat.le_refl _) (Nat.le_refl _) dX10_put_18 (by refine ⟨(if_neg h0).symm, ?_, hk⟩; show mR E _ y b1 b2 b3 b4 b5 b6 b7 b8 b9 b10 b11 b12 b13 b14 b15 b16 (nn, ins, nf, fn, bk, (if sAt bk rw b i = 0 then _ else rw), bd, sAt bk rw b i, c2, c3, c4); rw [if_neg h0]; exact ⟨_, _, _, _, _, _, _, _, _, _, _, _, _, _, _, _, _, ⟨g_y, g_b1, g_b2, g_b3, g_b4, g_b5, g_b6, g_b7, g_b8, g_b9, g_b10, g_b11, g_b12, g_b13, g_b14, g_b15, g_b16⟩, hB, hT, hR, hN, hF, hc2, hc3, hc4⟩)
theorem up24 {bk : Nat → Option Nat} {j : Nat} (h : ∀ k, k < 10 → ∀ r, bk k = some r → r < 24) : ∀ k, k < 10 → ∀ r, va_up bk j none k = some r → r < 24 := by
  intro k hk r hr
  by_cases hkj : k = j
  · subst hkj; rw [va_up_self] at hr; cases hr
  · rw [va_up_ne _ _ hkj] at hr; exact h k hk r hr
theorem up24t {tb : Nat → Option Nat} {j : Nat} (h : ∀ k, k < 12 → ∀ r, tb k = some r → r < 24) : ∀ k, k < 12 → ∀ r, va_up tb j none k = some r → r < 24 := by
  intro k hk r hr
  by_cases hkj : k = j
  · subst hkj; rw [va_up_self] at hr; cases hr
  · rw [va_up_ne _ _ hkj] at hr; exact h k hk r hr
theorem rlR_zro {LV LV' : Nat → Prop} {rw : Nat → sRw} {LN SZ : Nat → Int32} {SM : Nat → Int64} {fr : Nat} {l n : Int32} (h : rlR LV rw LN SZ SM) (hl : ∀ r, LV' r → LV r ∨ r = fr) (h40 : ∀ r, LV r → (rw r).2.1 ≤ 40) (hn : ¬ n < 0) (hn4 : n ≤ 40) : rlR LV' (va_up rw fr (l, n.toNatClampNeg, (fun _ => 0))) (upd LN fr l) (upd SZ fr n) (zro SM (40 * fr) 40) := by
  obtain ⟨k, hk, rfl⟩ := nI_of hn
  rw [show (40 : Int32) = nI 40 from rfl, nI_leI hk (by decide)] at hn4
  refine h.add hl h40 ⟨upd_s, ?_, fun j hj => ?_⟩ (fun r hr => ⟨upd_o hr, upd_o hr, fun j hj => ?_⟩)
  · show upd SZ fr (nI k) fr = nI (nI k).toNatClampNeg
    rw [upd_s, nI_clamp hk]
  · have hj : j < (nI k).toNatClampNeg := hj
    rw [nI_clamp hk] at hj
    show _ = sBits l 0
    rw [sBits_0]
    simp only [zro]
    rw [if_pos (by omega)]
  · simp only [zro]
    rw [if_neg (by omega)]
theorem rlR_cpy {LV LV' : Nat → Prop} {rw : Nat → sRw} {LN SZ : Nat → Int32} {SM : Nat → Int64} {fr w : Nat} (h : rlR LV rw LN SZ SM) (hl : ∀ r, LV' r → LV r ∨ r = fr) (h40 : ∀ r, LV r → (rw r).2.1 ≤ 40) (hw : LV w) : rlR LV' (va_up rw fr (rw w)) (upd LN fr (LN w)) (upd SZ fr (SZ w)) (va_cpy SM (zro SM (40 * fr) 40) (40 * w) (40 * fr) 40) := by
  have h4 := h40 w hw
  obtain ⟨e1, e2, e3⟩ := h w hw _ _ _ rfl
  refine h.add hl h40 ⟨upd_s.trans e1, upd_s.trans e2, fun j hj => ?_⟩ (fun r hr => ⟨upd_o hr, upd_o hr, fun j hj => ?_⟩)
  · simp only [va_cpy]
    rw [if_pos (by omega), Nat.add_sub_cancel_left]
    exact e3 j hj
  · simp only [va_cpy, zro]
    rw [if_neg (by omega), if_neg (by omega)]
theorem fr_ne {bk tb : Nat → Option Nat} {fr k w : Nat} (efr : fr = fresh bk tb) (hk : k < 10) (hw : bk k = some w) : w ≠ fr := by
  intro q
  have h := fresh_un bk tb
  rw [← efr, ← q, usedB_iff.mpr (Or.inl ⟨k, hk, hw⟩)] at h
  cases h
theorem upd_upB {B : Nat → Int32} {j : Nat} {v w : Int32} : upd (upd B j v) j w = upd B j w := upd_up
theorem in_X10_block_X10 : ∀ w ∈ wsX100, w ∈ wsX10_block := by decide +kernel
set_option maxHeartbeats 4000000 in
set_option maxRecDepth 100000 in
theorem c_X10_block (l : Launch) (E : mEnv) (M : mMem) (sz : Nat) (y b1 b2 b3 b4 b5 b6 b7 b8 b9 b10 b11 b12 b13 b14 b15 b16 nn nf : Nat) (ins : Nat → sIn) (fn : Nat → Int32 × Int32) (bk : Nat → Option Nat) (rw : Nat → sRw) (bd st c2 c3 c4 : Int32) (hV : Inv (nn, ins, nf, fn, bk, rw, bd, st, c2, c3, c4)) (hC : mR E M y b1 b2 b3 b4 b5 b6 b7 b8 b9 b10 b11 b12 b13 b14 b15 b16 (nn, ins, nf, fn, bk, rw, bd, st, c2, c3, c4)) (hnd : [y, b1, b2, b3, b4, b5, b6, b7, b8, b9, b10, b11, b12, b13, b14, b15, b16].Nodup) (b l0 n : Int32)    : Met l yX10_block wsX10_block ({ frames := 1, cells := 0, slots := 0, locals := 25 }) (mPre E M sz [.ref y, .int b, .int l0, .int n]) (mQi E M sz (fun r u => r = aBlock (nn, ins, nf, fn, bk, rw, bd, st, c2, c3, c4) b l0 n ∧ mR E u y b1 b2 b3 b4 b5 b6 b7 b8 b9 b10 b11 b12 b13 b14 b15 b16 (nBlock (nn, ins, nf, fn, bk, rw, bd, st, c2, c3, c4) b l0 n) ∧ kept (nol y b1 b2 b3 b4 b5 b6 b7 b8 b9 b10 b11 b12 b13 b14 b15 b16) M u)) (0) (0) (mA M sz) := by
  refine m_met [.ref y, .int b, .int l0, .int n] (by decide) rfl (Nat.le_of_ble_eq_true rfl) ?_
  intro p e s m below meth c ls H eH hx hb hr hts hown hlocks hnm hml hsz hE hM hS hA hl
  have hl : lv_has ls 4 [(0, .ref y), (1, .int b), (2, .int l0), (3, .int n)] := hl
  have hC0 := hC
  obtain ⟨fa, B, T, LN, SZ, SM, SO, KN, PI, ON, PH, LE, KD, NM, CT, CM, MV, ⟨g_y, g_b1, g_b2, g_b3, g_b4, g_b5, g_b6, g_b7, g_b8, g_b9, g_b10, g_b11, g_b12, g_b13, g_b14, g_b15, g_b16⟩, hB, hT, hR, hN, hF, hc2, hc3, hc4⟩ := hC
  have hiK := hV.insK
  have h24t := hV.tb24
  have h40 := hV.n40
  obtain ⟨hnn, hnf, hvI, hvD, hv24, hvR, hvF⟩ := id hV
  have h24 : ∀ k, k < 10 → ∀ r, bk k = some r → r < 24 := fun k hk r hr => hv24 r (Or.inl ⟨k, hk, hr⟩)
  have hk : kept (nol y b1 b2 b3 b4 b5 b6 b7 b8 b9 b10 b11 b12 b13 b14 b15 b16) M M := kept.rf
  refine lv_iload_n hx hb dX10_block_0 rfl (lv_at hl 1 rfl) ?_
  refine lv_iconst (v := 0) hx hb dX10_block_1 (by decide) ?_
  refine lv_bipush (v := 9) hx hb dX10_block_2 (by decide) ?_
  refine m_calli (va_runS (As := [.int b, .int 0, .int 9]) (rest := []) ⟨hx, hb, hml, hown, hts⟩ (c_X10_in l E M H.size b 0 9) (va_cwS 3 hts gX10_block_X10_in rfl rfl rfl (by decide +kernel) ⟨Nat.le_of_ble_eq_true rfl, Nat.le_of_ble_eq_true rfl⟩) (m_preS hE hM) rfl rfl hl.1 rfl (lv_room (Nat.le_of_ble_eq_true rfl)) dX10_block_4 ⟨Nat.le_of_ble_eq_true rfl, Nat.le_of_ble_eq_true rfl⟩) hM hS hA (fun r0 u H locs hw hM hS => ?_)
  obtain ⟨e_r0, eu⟩ := hw
  rw [eu] at hM
  rw [bI_congr (in_9)] at e_r0
  subst e_r0
  refine lv_if_eq (tgt := 25) hx hb dX10_block_7 (by decide) (fun c_7 => ?_) (fun c_7 => ?_)
  · skip
    rw [bI_eq] at c_7
    have hz : ¬ (vBl b l0 n) := na1 c_7
    refine lv_iconst (v := -1) hx hb dX10_block_25 (by decide) ?_
    exact m_iret hx hb hr hlocks hM hS (Nat.le_refl _) (Nat.le_refl _) dX10_block_26 (by refine ⟨(if_neg hz).symm, ?_, hk⟩; show mR E _ y b1 b2 b3 b4 b5 b6 b7 b8 b9 b10 b11 b12 b13 b14 b15 b16 (if vBl b l0 n ∧ ¬ n < 0 then _ else _); rw [if_neg (na1 hz)]; exact hC0)
  · skip
    rw [bI_ne] at c_7
    obtain ⟨jb, hjb, hbj, hjbc⟩ := vB_ix c_7
    have hbin : vp_in b 10 := (by rw [hbj]; exact vp_in_nI (by omega) (by decide))
    refine lv_iload_n hx hb dX10_block_10 rfl (lv_at hl 2 rfl) ?_
    refine lv_iconst (v := 0) hx hb dX10_block_11 (by decide) ?_
    refine lv_iconst (v := 3) hx hb dX10_block_12 (by decide) ?_
    refine m_calli (va_runS (As := [.int l0, .int 0, .int 3]) (rest := []) ⟨hx, hb, hml, hown, hts⟩ (c_X10_in l E M H.size l0 0 3) (va_cwS 3 hts gX10_block_X10_in rfl rfl rfl (by decide +kernel) ⟨Nat.le_of_ble_eq_true rfl, Nat.le_of_ble_eq_true rfl⟩) (m_preS hE hM) rfl rfl hl.1 rfl (lv_room (Nat.le_of_ble_eq_true rfl)) dX10_block_13 ⟨Nat.le_of_ble_eq_true rfl, Nat.le_of_ble_eq_true rfl⟩) hM hS hA (fun r0 u H locs hw hM hS => ?_)
    obtain ⟨e_r0, eu⟩ := hw
    rw [eu] at hM
    rw [bI_congr (Iff.rfl)] at e_r0
    subst e_r0
    refine lv_if_eq (tgt := 25) hx hb dX10_block_16 (by decide) (fun c_16 => ?_) (fun c_16 => ?_)
    · skip
      rw [bI_eq] at c_16
      have hz : ¬ (vBl b l0 n) := na2 (na1 c_16)
      refine lv_iconst (v := -1) hx hb dX10_block_25 (by decide) ?_
      exact m_iret hx hb hr hlocks hM hS (Nat.le_refl _) (Nat.le_refl _) dX10_block_26 (by refine ⟨(if_neg hz).symm, ?_, hk⟩; show mR E _ y b1 b2 b3 b4 b5 b6 b7 b8 b9 b10 b11 b12 b13 b14 b15 b16 (if vBl b l0 n ∧ ¬ n < 0 then _ else _); rw [if_neg (na1 hz)]; exact hC0)
    · skip
      rw [bI_ne] at c_16
      refine lv_iload_n hx hb dX10_block_19 rfl (lv_at hl 3 rfl) ?_
      refine lv_bipush (v := 40) hx hb dX10_block_20 (by decide) ?_
      refine lv_icmp_le (tgt := 27) hx hb dX10_block_22 (by decide) (fun c_22 => ?_) (fun c_22 => ?_)
      · skip
        have hv9 : vBl b l0 n := ⟨c_7, c_16, c_22⟩
        refine lv_iload_n hx hb dX10_block_27 rfl (lv_at hl 3 rfl) ?_
        refine lv_if_ge (tgt := 34) hx hb dX10_block_28 (by decide) (fun c_28 => ?_) (fun c_28 => ?_)
        · skip
          refine lv_aload_n hx hb dX10_block_34 rfl (lv_at hl 0 rfl) ?_
          refine m_get (ci := 8) (v := .ref b1) (C := RX10) (T := TX10) (N := 21) hx hb hts in_X10_block_X10 hown hE hM g_y rfl 0 (by decide) (hts (.fieldLink RX10 7 "CallWays2Model" "blocks" "[I") (by decide +kernel)) (fun _ h9 => h9) rfl dX10_block_35 ?_
          refine lv_iload_n hx hb dX10_block_38 rfl (lv_at hl 1 rfl) ?_
          refine lv_iconst (v := -1) hx hb dX10_block_39 (by decide) ?_
          obtain ⟨fr, efr⟩ : ∃ z, z = fresh (va_up bk jb none) (tbs ins) := ⟨_, rfl⟩
          have hnl : ¬ n < 0 := Int32.not_lt.mpr c_28
          refine m_iast hx hb hE hM hS g_b1 hbin dX10_block_40 (fun H locs hM hS => ?_)
          rw [show upd B b.toNatClampNeg (-1) = upd B jb (-1) from by rw [hjbc]] at hM
          have hM : mOK E.1 (mA M sz) (mUp M b1 (mI E 10 (upd B jb (-1)))) H := hM
          obtain ⟨M1, eM1⟩ : ∃ z, z = mUp M b1 (mI E 10 (upd B jb (-1))) := ⟨_, rfl⟩
          rw [← eM1] at hM
          have g_y_ : M1 y = some (mO 8 [.ref b1, .ref b2, .ref b3, .ref b4, .ref b5, .int (nI nn), .ref b6, .ref b7, .ref b8, .ref b9, .ref b10, .ref b11, .int (nI nf), .ref b12, .ref b13, .int bd, .int st, .int fa, .ref b14, .ref b15, .ref b16]) := by rw [eM1]; exact mUp_at (nd_ne hnd 0 1 rfl rfl (by decide)) g_y
          have g_b2_ : M1 b2 = some (mI E 12 T) := by rw [eM1]; exact mUp_at (nd_ne hnd 2 1 rfl rfl (by decide)) g_b2
          have g_b3_ : M1 b3 = some (mI E 24 LN) := by rw [eM1]; exact mUp_at (nd_ne hnd 3 1 rfl rfl (by decide)) g_b3
          have g_b4_ : M1 b4 = some (mI E 24 SZ) := by rw [eM1]; exact mUp_at (nd_ne hnd 4 1 rfl rfl (by decide)) g_b4
          have g_b5_ : M1 b5 = some (mJ E 960 SM) := by rw [eM1]; exact mUp_at (nd_ne hnd 5 1 rfl rfl (by decide)) g_b5
          have g_b6_ : M1 b6 = some (mI E 12 SO) := by rw [eM1]; exact mUp_at (nd_ne hnd 6 1 rfl rfl (by decide)) g_b6
          have g_b7_ : M1 b7 = some (mI E 48 KN) := by rw [eM1]; exact mUp_at (nd_ne hnd 7 1 rfl rfl (by decide)) g_b7
          have g_b8_ : M1 b8 = some (mI E 12 PI) := by rw [eM1]; exact mUp_at (nd_ne hnd 8 1 rfl rfl (by decide)) g_b8
          have g_b9_ : M1 b9 = some (mZ E 12 ON) := by rw [eM1]; exact mUp_at (nd_ne hnd 9 1 rfl rfl (by decide)) g_b9
          have g_b10_ : M1 b10 = some (mI E 12 PH) := by rw [eM1]; exact mUp_at (nd_ne hnd 10 1 rfl rfl (by decide)) g_b10
          have g_b11_ : M1 b11 = some (mDb E 12 LE) := by rw [eM1]; exact mUp_at (nd_ne hnd 11 1 rfl rfl (by decide)) g_b11
          have g_b12_ : M1 b12 = some (mI E 8 KD) := by rw [eM1]; exact mUp_at (nd_ne hnd 12 1 rfl rfl (by decide)) g_b12
          have g_b13_ : M1 b13 = some (mI E 8 NM) := by rw [eM1]; exact mUp_at (nd_ne hnd 13 1 rfl rfl (by decide)) g_b13
          have g_b14_ : M1 b14 = some (mI E 3 CT) := by rw [eM1]; exact mUp_at (nd_ne hnd 14 1 rfl rfl (by decide)) g_b14
          have g_b15_ : M1 b15 = some (mDb E 40 CM) := by rw [eM1]; exact mUp_at (nd_ne hnd 15 1 rfl rfl (by decide)) g_b15
          have g_b16_ : M1 b16 = some (mJ E 40 MV) := by rw [eM1]; exact mUp_at (nd_ne hnd 16 1 rfl rfl (by decide)) g_b16
          have g_y := g_y_
          have g_b2 := g_b2_
          have g_b3 := g_b3_
          have g_b4 := g_b4_
          have g_b5 := g_b5_
          have g_b6 := g_b6_
          have g_b7 := g_b7_
          have g_b8 := g_b8_
          have g_b9 := g_b9_
          have g_b10 := g_b10_
          have g_b11 := g_b11_
          have g_b12 := g_b12_
          have g_b13 := g_b13_
          have g_b14 := g_b14_
          have g_b15 := g_b15_
          have g_b16 := g_b16_
          have g_b1 : M1 b1 = some (mI E 10 (upd B jb (-1))) := by rw [eM1]; exact mUp_self _ _ _
          have hk : kept (nol y b1 b2 b3 b4 b5 b6 b7 b8 b9 b10 b11 b12 b13 b14 b15 b16) M M1 := (by rw [eM1]; exact hk.up (nol_in 1 rfl))
          refine lv_aload_n hx hb dX10_block_41 rfl (lv_at hl 0 rfl) ?_
          refine m_get (ci := 8) (v := .ref b1) (C := RX10) (T := TX10) (N := 21) hx hb hts in_X10_block_X10 hown hE hM g_y rfl 0 (by decide) (hts (.fieldLink RX10 7 "CallWays2Model" "blocks" "[I") (by decide +kernel)) (fun _ h9 => h9) rfl dX10_block_42 ?_
          refine lv_iload_n hx hb dX10_block_45 rfl (lv_at hl 1 rfl) ?_
          refine lv_aload_n hx hb dX10_block_46 rfl (lv_at hl 0 rfl) ?_
          refine lv_iload_n hx hb dX10_block_47 rfl (lv_at hl 2 rfl) ?_
          refine lv_iload_n hx hb dX10_block_48 rfl (lv_at hl 3 rfl) ?_
          refine m_calli (va_runV (As := [.int l0, .int n]) (rest := [.int b, .ref b1]) ⟨hx, hb, hml, hown, hts⟩ (c_X10_freshRow l E M1 H.size y b1 b2 b3 b4 b5 b6 b7 b8 b9 b10 b11 b12 b13 b14 b15 b16 (nI nn) (nI nf) bd st fa (upd B jb (-1)) T LN SZ SM (va_up bk jb none) (tbs ins) fr efr l0 n (hB.up rfl) hT (up24 h24) h24t (nd_ne hnd 3 4 rfl rfl (by decide)) g_y g_b1 g_b2 g_b3 g_b4 g_b5) (cwV 2 hts gX10_block_X10_freshRow rfl rfl rfl (by decide +kernel) ⟨Nat.le_of_ble_eq_true rfl, Nat.le_of_ble_eq_true rfl⟩) (m_preV hE hM g_y rfl) rfl rfl hl.1 rfl (lv_room (Nat.le_of_ble_eq_true rfl)) dX10_block_49 ⟨Nat.le_of_ble_eq_true rfl, Nat.le_of_ble_eq_true rfl⟩) hM hS hA (fun r4 M2 H locs hw hM hS => ?_)
          obtain ⟨e_r4, eM2⟩ := hw
          subst e_r4
          have g_y_ : M2 y = some (mO 8 [.ref b1, .ref b2, .ref b3, .ref b4, .ref b5, .int (nI nn), .ref b6, .ref b7, .ref b8, .ref b9, .ref b10, .ref b11, .int (nI nf), .ref b12, .ref b13, .int bd, .int st, .int fa, .ref b14, .ref b15, .ref b16]) := by rw [eM2]; exact tri_ne g_y (nd_ne hnd 0 3 rfl rfl (by decide)) (nd_ne hnd 0 4 rfl rfl (by decide)) (nd_ne hnd 0 5 rfl rfl (by decide))
          have g_b1_ : M2 b1 = some (mI E 10 (upd B jb (-1))) := by rw [eM2]; exact tri_ne g_b1 (nd_ne hnd 1 3 rfl rfl (by decide)) (nd_ne hnd 1 4 rfl rfl (by decide)) (nd_ne hnd 1 5 rfl rfl (by decide))
          have g_b2_ : M2 b2 = some (mI E 12 T) := by rw [eM2]; exact tri_ne g_b2 (nd_ne hnd 2 3 rfl rfl (by decide)) (nd_ne hnd 2 4 rfl rfl (by decide)) (nd_ne hnd 2 5 rfl rfl (by decide))
          have g_b6_ : M2 b6 = some (mI E 12 SO) := by rw [eM2]; exact tri_ne g_b6 (nd_ne hnd 6 3 rfl rfl (by decide)) (nd_ne hnd 6 4 rfl rfl (by decide)) (nd_ne hnd 6 5 rfl rfl (by decide))
          have g_b7_ : M2 b7 = some (mI E 48 KN) := by rw [eM2]; exact tri_ne g_b7 (nd_ne hnd 7 3 rfl rfl (by decide)) (nd_ne hnd 7 4 rfl rfl (by decide)) (nd_ne hnd 7 5 rfl rfl (by decide))
          have g_b8_ : M2 b8 = some (mI E 12 PI) := by rw [eM2]; exact tri_ne g_b8 (nd_ne hnd 8 3 rfl rfl (by decide)) (nd_ne hnd 8 4 rfl rfl (by decide)) (nd_ne hnd 8 5 rfl rfl (by decide))
          have g_b9_ : M2 b9 = some (mZ E 12 ON) := by rw [eM2]; exact tri_ne g_b9 (nd_ne hnd 9 3 rfl rfl (by decide)) (nd_ne hnd 9 4 rfl rfl (by decide)) (nd_ne hnd 9 5 rfl rfl (by decide))
          have g_b10_ : M2 b10 = some (mI E 12 PH) := by rw [eM2]; exact tri_ne g_b10 (nd_ne hnd 10 3 rfl rfl (by decide)) (nd_ne hnd 10 4 rfl rfl (by decide)) (nd_ne hnd 10 5 rfl rfl (by decide))
          have g_b11_ : M2 b11 = some (mDb E 12 LE) := by rw [eM2]; exact tri_ne g_b11 (nd_ne hnd 11 3 rfl rfl (by decide)) (nd_ne hnd 11 4 rfl rfl (by decide)) (nd_ne hnd 11 5 rfl rfl (by decide))
          have g_b12_ : M2 b12 = some (mI E 8 KD) := by rw [eM2]; exact tri_ne g_b12 (nd_ne hnd 12 3 rfl rfl (by decide)) (nd_ne hnd 12 4 rfl rfl (by decide)) (nd_ne hnd 12 5 rfl rfl (by decide))
          have g_b13_ : M2 b13 = some (mI E 8 NM) := by rw [eM2]; exact tri_ne g_b13 (nd_ne hnd 13 3 rfl rfl (by decide)) (nd_ne hnd 13 4 rfl rfl (by decide)) (nd_ne hnd 13 5 rfl rfl (by decide))
          have g_b14_ : M2 b14 = some (mI E 3 CT) := by rw [eM2]; exact tri_ne g_b14 (nd_ne hnd 14 3 rfl rfl (by decide)) (nd_ne hnd 14 4 rfl rfl (by decide)) (nd_ne hnd 14 5 rfl rfl (by decide))
          have g_b15_ : M2 b15 = some (mDb E 40 CM) := by rw [eM2]; exact tri_ne g_b15 (nd_ne hnd 15 3 rfl rfl (by decide)) (nd_ne hnd 15 4 rfl rfl (by decide)) (nd_ne hnd 15 5 rfl rfl (by decide))
          have g_b16_ : M2 b16 = some (mJ E 40 MV) := by rw [eM2]; exact tri_ne g_b16 (nd_ne hnd 16 3 rfl rfl (by decide)) (nd_ne hnd 16 4 rfl rfl (by decide)) (nd_ne hnd 16 5 rfl rfl (by decide))
          have g_y := g_y_
          have g_b1 := g_b1_
          have g_b2 := g_b2_
          have g_b6 := g_b6_
          have g_b7 := g_b7_
          have g_b8 := g_b8_
          have g_b9 := g_b9_
          have g_b10 := g_b10_
          have g_b11 := g_b11_
          have g_b12 := g_b12_
          have g_b13 := g_b13_
          have g_b14 := g_b14_
          have g_b15 := g_b15_
          have g_b16 := g_b16_
          have g_b3 : M2 b3 = some (mI E 24 (upd LN fr l0)) := by rw [eM2]; exact tri_gp (nd_ne hnd 3 4 rfl rfl (by decide)) (nd_ne hnd 3 5 rfl rfl (by decide))
          have g_b4 : M2 b4 = some (mI E 24 (upd SZ fr n)) := by rw [eM2]; exact tri_gx (nd_ne hnd 4 5 rfl rfl (by decide))
          have g_b5 : M2 b5 = some (mJ E 960 (zro SM (40 * fr) 40)) := by rw [eM2]; exact tri_ga
          have hk : kept (nol y b1 b2 b3 b4 b5 b6 b7 b8 b9 b10 b11 b12 b13 b14 b15 b16) M M2 := (by rw [eM2]; exact hk.tri (nol_in 3 rfl) (nol_in 4 rfl) (nol_in 5 rfl))
          refine m_iast hx hb hE hM hS g_b1 hbin dX10_block_52 (fun H locs hM hS => ?_)
          rw [show upd (upd B jb (-1)) b.toNatClampNeg (nI fr) = upd B jb (nI fr) from by rw [hjbc, upd_up]] at hM
          have hM : mOK E.1 (mA M sz) (mUp M2 b1 (mI E 10 (upd B jb (nI fr)))) H := hM
          obtain ⟨M3, eM3⟩ : ∃ z, z = mUp M2 b1 (mI E 10 (upd B jb (nI fr))) := ⟨_, rfl⟩
          rw [← eM3] at hM
          have g_y_ : M3 y = some (mO 8 [.ref b1, .ref b2, .ref b3, .ref b4, .ref b5, .int (nI nn), .ref b6, .ref b7, .ref b8, .ref b9, .ref b10, .ref b11, .int (nI nf), .ref b12, .ref b13, .int bd, .int st, .int fa, .ref b14, .ref b15, .ref b16]) := by rw [eM3]; exact mUp_at (nd_ne hnd 0 1 rfl rfl (by decide)) g_y
          have g_b2_ : M3 b2 = some (mI E 12 T) := by rw [eM3]; exact mUp_at (nd_ne hnd 2 1 rfl rfl (by decide)) g_b2
          have g_b3_ : M3 b3 = some (mI E 24 (upd LN fr l0)) := by rw [eM3]; exact mUp_at (nd_ne hnd 3 1 rfl rfl (by decide)) g_b3
          have g_b4_ : M3 b4 = some (mI E 24 (upd SZ fr n)) := by rw [eM3]; exact mUp_at (nd_ne hnd 4 1 rfl rfl (by decide)) g_b4
          have g_b5_ : M3 b5 = some (mJ E 960 (zro SM (40 * fr) 40)) := by rw [eM3]; exact mUp_at (nd_ne hnd 5 1 rfl rfl (by decide)) g_b5
          have g_b6_ : M3 b6 = some (mI E 12 SO) := by rw [eM3]; exact mUp_at (nd_ne hnd 6 1 rfl rfl (by decide)) g_b6
          have g_b7_ : M3 b7 = some (mI E 48 KN) := by rw [eM3]; exact mUp_at (nd_ne hnd 7 1 rfl rfl (by decide)) g_b7
          have g_b8_ : M3 b8 = some (mI E 12 PI) := by rw [eM3]; exact mUp_at (nd_ne hnd 8 1 rfl rfl (by decide)) g_b8
          have g_b9_ : M3 b9 = some (mZ E 12 ON) := by rw [eM3]; exact mUp_at (nd_ne hnd 9 1 rfl rfl (by decide)) g_b9
          have g_b10_ : M3 b10 = some (mI E 12 PH) := by rw [eM3]; exact mUp_at (nd_ne hnd 10 1 rfl rfl (by decide)) g_b10
          have g_b11_ : M3 b11 = some (mDb E 12 LE) := by rw [eM3]; exact mUp_at (nd_ne hnd 11 1 rfl rfl (by decide)) g_b11
          have g_b12_ : M3 b12 = some (mI E 8 KD) := by rw [eM3]; exact mUp_at (nd_ne hnd 12 1 rfl rfl (by decide)) g_b12
          have g_b13_ : M3 b13 = some (mI E 8 NM) := by rw [eM3]; exact mUp_at (nd_ne hnd 13 1 rfl rfl (by decide)) g_b13
          have g_b14_ : M3 b14 = some (mI E 3 CT) := by rw [eM3]; exact mUp_at (nd_ne hnd 14 1 rfl rfl (by decide)) g_b14
          have g_b15_ : M3 b15 = some (mDb E 40 CM) := by rw [eM3]; exact mUp_at (nd_ne hnd 15 1 rfl rfl (by decide)) g_b15
          have g_b16_ : M3 b16 = some (mJ E 40 MV) := by rw [eM3]; exact mUp_at (nd_ne hnd 16 1 rfl rfl (by decide)) g_b16
          have g_y := g_y_
          have g_b2 := g_b2_
          have g_b3 := g_b3_
          have g_b4 := g_b4_
          have g_b5 := g_b5_
          have g_b6 := g_b6_
          have g_b7 := g_b7_
          have g_b8 := g_b8_
          have g_b9 := g_b9_
          have g_b10 := g_b10_
          have g_b11 := g_b11_
          have g_b12 := g_b12_
          have g_b13 := g_b13_
          have g_b14 := g_b14_
          have g_b15 := g_b15_
          have g_b16 := g_b16_
          have g_b1 : M3 b1 = some (mI E 10 (upd B jb (nI fr))) := by rw [eM3]; exact mUp_self _ _ _
          have hk : kept (nol y b1 b2 b3 b4 b5 b6 b7 b8 b9 b10 b11 b12 b13 b14 b15 b16) M M3 := (by rw [eM3]; exact hk.up (nol_in 1 rfl))
          refine lv_iconst (v := 1) hx hb dX10_block_53 (by decide) ?_
          exact m_iret hx hb hr hlocks hM hS (Nat.le_refl _) (Nat.le_refl _) dX10_block_54 (by refine ⟨(by show _ = (if vBl b l0 n then (if n < 0 then -8 else 1) else -1); rw [if_pos hv9, if_neg hnl]), ?_, hk⟩; show mR E _ y b1 b2 b3 b4 b5 b6 b7 b8 b9 b10 b11 b12 b13 b14 b15 b16 (if vBl b l0 n ∧ ¬ n < 0 then _ else _); rw [if_pos ⟨hv9, hnl⟩, hjbc, ← efr]; exact ⟨_, _, _, _, _, _, _, _, _, _, _, _, _, _, _, _, _, ⟨g_y, g_b1, g_b2, g_b3, g_b4, g_b5, g_b6, g_b7, g_b8, g_b9, g_b10, g_b11, g_b12, g_b13, g_b14, g_b15, g_b16⟩, (hB.up rfl), hT, (rlR_zro (hR.mono live_B0) live_B (fun r hr => h40 r (live_B0 r hr)) hnl c_22), hN, hF, hc2, hc3, hc4⟩)
        · skip
          refine lv_bipush (v := -8) hx hb dX10_block_31 (by decide) ?_
          exact m_iret hx hb hr hlocks hM hS (Nat.le_refl _) (Nat.le_refl _) dX10_block_33 (by refine ⟨(by show _ = (if vBl b l0 n then (if n < 0 then -8 else 1) else -1); rw [if_pos hv9, if_pos (Int32.not_le.mp c_28)]), ?_, hk⟩; show mR E _ y b1 b2 b3 b4 b5 b6 b7 b8 b9 b10 b11 b12 b13 b14 b15 b16 (if vBl b l0 n ∧ ¬ n < 0 then _ else _); rw [if_neg (na2 (not_not_intro (Int32.not_le.mp c_28)))]; exact hC0)
      · skip
        have hz : ¬ (vBl b l0 n) := na2 (na2 c_22)
        refine lv_iconst (v := -1) hx hb dX10_block_25 (by decide) ?_
        exact m_iret hx hb hr hlocks hM hS (Nat.le_refl _) (Nat.le_refl _) dX10_block_26 (by refine ⟨(if_neg hz).symm, ?_, hk⟩; show mR E _ y b1 b2 b3 b4 b5 b6 b7 b8 b9 b10 b11 b12 b13 b14 b15 b16 (if vBl b l0 n ∧ ¬ n < 0 then _ else _); rw [if_neg (na1 hz)]; exact hC0)
theorem in_X10_lend_X10 : ∀ w ∈ wsX100, w ∈ wsX10_lend := by decide +kernel
set_option maxHeartbeats 4000000 in
set_option maxRecDepth 100000 in
theorem c_X10_lend (l : Launch) (E : mEnv) (M : mMem) (sz : Nat) (y b1 b2 b3 b4 b5 b6 b7 b8 b9 b10 b11 b12 b13 b14 b15 b16 nn nf : Nat) (ins : Nat → sIn) (fn : Nat → Int32 × Int32) (bk : Nat → Option Nat) (rw : Nat → sRw) (bd st c2 c3 c4 : Int32) (hV : Inv (nn, ins, nf, fn, bk, rw, bd, st, c2, c3, c4)) (hC : mR E M y b1 b2 b3 b4 b5 b6 b7 b8 b9 b10 b11 b12 b13 b14 b15 b16 (nn, ins, nf, fn, bk, rw, bd, st, c2, c3, c4)) (hnd : [y, b1, b2, b3, b4, b5, b6, b7, b8, b9, b10, b11, b12, b13, b14, b15, b16].Nodup) (b fr0 o : Int32)    : Met l yX10_lend wsX10_lend ({ frames := 2, cells := 0, slots := 0, locals := 48 }) (mPre E M sz [.ref y, .int b, .int fr0, .int o]) (mQi E M sz (fun r u => r = aLend (nn, ins, nf, fn, bk, rw, bd, st, c2, c3, c4) b fr0 o ∧ mR E u y b1 b2 b3 b4 b5 b6 b7 b8 b9 b10 b11 b12 b13 b14 b15 b16 (nLend (nn, ins, nf, fn, bk, rw, bd, st, c2, c3, c4) b fr0 o) ∧ kept (nol y b1 b2 b3 b4 b5 b6 b7 b8 b9 b10 b11 b12 b13 b14 b15 b16) M u)) (0) (0) (mA M sz) := by
  refine m_met [.ref y, .int b, .int fr0, .int o] (by decide) rfl (Nat.le_of_ble_eq_true rfl) ?_
  intro p e s m below meth c ls H eH hx hb hr hts hown hlocks hnm hml hsz hE hM hS hA hl
  have hl : lv_has ls 5 [(0, .ref y), (1, .int b), (2, .int fr0), (3, .int o)] := hl
  have hC0 := hC
  obtain ⟨fa, B, T, LN, SZ, SM, SO, KN, PI, ON, PH, LE, KD, NM, CT, CM, MV, ⟨g_y, g_b1, g_b2, g_b3, g_b4, g_b5, g_b6, g_b7, g_b8, g_b9, g_b10, g_b11, g_b12, g_b13, g_b14, g_b15, g_b16⟩, hB, hT, hR, hN, hF, hc2, hc3, hc4⟩ := hC
  have hiK := hV.insK
  have h24t := hV.tb24
  have h40 := hV.n40
  obtain ⟨hnn, hnf, hvI, hvD, hv24, hvR, hvF⟩ := id hV
  have h24 : ∀ k, k < 10 → ∀ r, bk k = some r → r < 24 := fun k hk r hr => hv24 r (Or.inl ⟨k, hk, hr⟩)
  have hk : kept (nol y b1 b2 b3 b4 b5 b6 b7 b8 b9 b10 b11 b12 b13 b14 b15 b16) M M := kept.rf
  refine lv_iload_n hx hb dX10_lend_0 rfl (lv_at hl 1 rfl) ?_
  refine lv_iconst (v := 0) hx hb dX10_lend_1 (by decide) ?_
  refine lv_bipush (v := 9) hx hb dX10_lend_2 (by decide) ?_
  refine m_calli (va_runS (As := [.int b, .int 0, .int 9]) (rest := []) ⟨hx, hb, hml, hown, hts⟩ (c_X10_in l E M H.size b 0 9) (va_cwS 3 hts gX10_lend_X10_in rfl rfl rfl (by decide +kernel) ⟨Nat.le_of_ble_eq_true rfl, Nat.le_of_ble_eq_true rfl⟩) (m_preS hE hM) rfl rfl hl.1 rfl (lv_room (Nat.le_of_ble_eq_true rfl)) dX10_lend_4 ⟨Nat.le_of_ble_eq_true rfl, Nat.le_of_ble_eq_true rfl⟩) hM hS hA (fun r0 u H locs hw hM hS => ?_)
  obtain ⟨e_r0, eu⟩ := hw
  rw [eu] at hM
  rw [bI_congr (in_9)] at e_r0
  subst e_r0
  refine lv_if_eq (tgt := 20) hx hb dX10_lend_7 (by decide) (fun c_7 => ?_) (fun c_7 => ?_)
  · skip
    rw [bI_eq] at c_7
    have hz : ¬ (vB b ∧ vB fr0) := na1 c_7
    refine lv_iconst (v := -1) hx hb dX10_lend_20 (by decide) ?_
    exact m_iret hx hb hr hlocks hM hS (Nat.le_refl _) (Nat.le_refl _) dX10_lend_21 (by refine ⟨(if_neg hz).symm, ?_, hk⟩; show mR E _ y b1 b2 b3 b4 b5 b6 b7 b8 b9 b10 b11 b12 b13 b14 b15 b16 (if vB b ∧ vB fr0 then _ else _); rw [if_neg hz]; exact hC0)
  · skip
    rw [bI_ne] at c_7
    obtain ⟨jb5, hjb5, hbj5, hjbc5⟩ := vB_ix c_7
    have hbin5 : vp_in b 10 := (by rw [hbj5]; exact vp_in_nI (by omega) (by decide))
    refine lv_iload_n hx hb dX10_lend_10 rfl (lv_at hl 2 rfl) ?_
    refine lv_iconst (v := 0) hx hb dX10_lend_11 (by decide) ?_
    refine lv_bipush (v := 9) hx hb dX10_lend_12 (by decide) ?_
    refine m_calli (va_runS (As := [.int fr0, .int 0, .int 9]) (rest := []) ⟨hx, hb, hml, hown, hts⟩ (c_X10_in l E M H.size fr0 0 9) (va_cwS 3 hts gX10_lend_X10_in rfl rfl rfl (by decide +kernel) ⟨Nat.le_of_ble_eq_true rfl, Nat.le_of_ble_eq_true rfl⟩) (m_preS hE hM) rfl rfl hl.1 rfl (lv_room (Nat.le_of_ble_eq_true rfl)) dX10_lend_14 ⟨Nat.le_of_ble_eq_true rfl, Nat.le_of_ble_eq_true rfl⟩) hM hS hA (fun r0 u H locs hw hM hS => ?_)
    obtain ⟨e_r0, eu⟩ := hw
    rw [eu] at hM
    rw [bI_congr (in_9)] at e_r0
    subst e_r0
    refine lv_if_ne (tgt := 22) hx hb dX10_lend_17 (by decide) (fun c_17 => ?_) (fun c_17 => ?_)
    · skip
      rw [bI_ne] at c_17
      obtain ⟨jb, hjb, hbj, hjbc⟩ := vB_ix c_17
      have hbin : vp_in fr0 10 := (by rw [hbj]; exact vp_in_nI (by omega) (by decide))
      refine lv_aload_n hx hb dX10_lend_22 rfl (lv_at hl 0 rfl) ?_
      refine m_get (ci := 8) (v := .ref b1) (C := RX10) (T := TX10) (N := 21) hx hb hts in_X10_lend_X10 hown hE hM g_y rfl 0 (by decide) (hts (.fieldLink RX10 7 "CallWays2Model" "blocks" "[I") (by decide +kernel)) (fun _ h9 => h9) rfl dX10_lend_23 ?_
      refine lv_iload_n hx hb dX10_lend_26 rfl (lv_at hl 2 rfl) ?_
      refine m_iald hx hb hE hM g_b1 hbin dX10_lend_27 ?_
      rw [show B fr0.toNatClampNeg = rI (bk jb) from by rw [hjbc]; exact hB jb hjb]
      refine lv_istore (lv' := [(4, .int (rI (bk jb))), (0, .ref y), (1, .int b), (2, .int fr0), (3, .int o)]) hx hb dX10_lend_28 hl (by decide) rfl (fun ls hl => ?_)
      refine lv_iload hx hb dX10_lend_30 (lv_at hl 0 rfl) ?_
      rcases hbk : bk jb with _ | w
      · refine lv_if_ge (tgt := 42) hx hb dX10_lend_32 (by decide) (fun h9 => absurd h9 (by decide)) (fun _ => ?_)
        rw [hbk] at hl
        replace hl : lv_has ls 5 [(4, .int (-1)), (0, .ref y), (1, .int b), (2, .int fr0), (3, .int o)] := hl
        refine lv_iload_n hx hb dX10_lend_35 rfl (lv_at hl 4 rfl) ?_
        refine lv_if_ne (tgt := 42) hx hb dX10_lend_36 (by decide) (fun c_36 => ?_) (fun c_36 => ?_)
        · skip
          refine lv_aload_n hx hb dX10_lend_42 rfl (lv_at hl 1 rfl) ?_
          refine m_get (ci := 8) (v := .ref b1) (C := RX10) (T := TX10) (N := 21) hx hb hts in_X10_lend_X10 hown hE hM g_y rfl 0 (by decide) (hts (.fieldLink RX10 7 "CallWays2Model" "blocks" "[I") (by decide +kernel)) (fun _ h9 => h9) rfl dX10_lend_43 ?_
          refine lv_iload_n hx hb dX10_lend_46 rfl (lv_at hl 2 rfl) ?_
          refine lv_iload_n hx hb dX10_lend_47 rfl (lv_at hl 4 rfl) ?_
          refine lv_if_eq (tgt := 56) hx hb dX10_lend_48 (by decide) (fun h9 => False.elim (by revert h9; exact (fun h => c_36 h))) (fun _ => ?_)
          refine lv_iload hx hb dX10_lend_51 (lv_at hl 0 rfl) ?_
          refine lv_goto (tgt := 62) hx hb dX10_lend_53 (by decide) ?_
          refine m_iast hx hb hE hM hS g_b1 hbin5 dX10_lend_62 (fun H locs hM hS => ?_)
          rw [show upd B b.toNatClampNeg (-1) = upd B jb5 (-1) from by rw [hjbc5]] at hM
          have hM : mOK E.1 (mA M sz) (mUp M b1 (mI E 10 (upd B jb5 (-1)))) H := hM
          obtain ⟨M1, eM1⟩ : ∃ z, z = mUp M b1 (mI E 10 (upd B jb5 (-1))) := ⟨_, rfl⟩
          rw [← eM1] at hM
          have g_y_ : M1 y = some (mO 8 [.ref b1, .ref b2, .ref b3, .ref b4, .ref b5, .int (nI nn), .ref b6, .ref b7, .ref b8, .ref b9, .ref b10, .ref b11, .int (nI nf), .ref b12, .ref b13, .int bd, .int st, .int fa, .ref b14, .ref b15, .ref b16]) := by rw [eM1]; exact mUp_at (nd_ne hnd 0 1 rfl rfl (by decide)) g_y
          have g_b2_ : M1 b2 = some (mI E 12 T) := by rw [eM1]; exact mUp_at (nd_ne hnd 2 1 rfl rfl (by decide)) g_b2
          have g_b3_ : M1 b3 = some (mI E 24 LN) := by rw [eM1]; exact mUp_at (nd_ne hnd 3 1 rfl rfl (by decide)) g_b3
          have g_b4_ : M1 b4 = some (mI E 24 SZ) := by rw [eM1]; exact mUp_at (nd_ne hnd 4 1 rfl rfl (by decide)) g_b4
          have g_b5_ : M1 b5 = some (mJ E 960 SM) := by rw [eM1]; exact mUp_at (nd_ne hnd 5 1 rfl rfl (by decide)) g_b5
          have g_b6_ : M1 b6 = some (mI E 12 SO) := by rw [eM1]; exact mUp_at (nd_ne hnd 6 1 rfl rfl (by decide)) g_b6
          have g_b7_ : M1 b7 = some (mI E 48 KN) := by rw [eM1]; exact mUp_at (nd_ne hnd 7 1 rfl rfl (by decide)) g_b7
          have g_b8_ : M1 b8 = some (mI E 12 PI) := by rw [eM1]; exact mUp_at (nd_ne hnd 8 1 rfl rfl (by decide)) g_b8
          have g_b9_ : M1 b9 = some (mZ E 12 ON) := by rw [eM1]; exact mUp_at (nd_ne hnd 9 1 rfl rfl (by decide)) g_b9
          have g_b10_ : M1 b10 = some (mI E 12 PH) := by rw [eM1]; exact mUp_at (nd_ne hnd 10 1 rfl rfl (by decide)) g_b10
          have g_b11_ : M1 b11 = some (mDb E 12 LE) := by rw [eM1]; exact mUp_at (nd_ne hnd 11 1 rfl rfl (by decide)) g_b11
          have g_b12_ : M1 b12 = some (mI E 8 KD) := by rw [eM1]; exact mUp_at (nd_ne hnd 12 1 rfl rfl (by decide)) g_b12
          have g_b13_ : M1 b13 = some (mI E 8 NM) := by rw [eM1]; exact mUp_at (nd_ne hnd 13 1 rfl rfl (by decide)) g_b13
          have g_b14_ : M1 b14 = some (mI E 3 CT) := by rw [eM1]; exact mUp_at (nd_ne hnd 14 1 rfl rfl (by decide)) g_b14
          have g_b15_ : M1 b15 = some (mDb E 40 CM) := by rw [eM1]; exact mUp_at (nd_ne hnd 15 1 rfl rfl (by decide)) g_b15
          have g_b16_ : M1 b16 = some (mJ E 40 MV) := by rw [eM1]; exact mUp_at (nd_ne hnd 16 1 rfl rfl (by decide)) g_b16
          have g_y := g_y_
          have g_b2 := g_b2_
          have g_b3 := g_b3_
          have g_b4 := g_b4_
          have g_b5 := g_b5_
          have g_b6 := g_b6_
          have g_b7 := g_b7_
          have g_b8 := g_b8_
          have g_b9 := g_b9_
          have g_b10 := g_b10_
          have g_b11 := g_b11_
          have g_b12 := g_b12_
          have g_b13 := g_b13_
          have g_b14 := g_b14_
          have g_b15 := g_b15_
          have g_b16 := g_b16_
          have g_b1 : M1 b1 = some (mI E 10 (upd B jb5 (-1))) := by rw [eM1]; exact mUp_self _ _ _
          have hk : kept (nol y b1 b2 b3 b4 b5 b6 b7 b8 b9 b10 b11 b12 b13 b14 b15 b16) M M1 := (by rw [eM1]; exact hk.up (nol_in 1 rfl))
          refine lv_iconst (v := 1) hx hb dX10_lend_63 (by decide) ?_
          exact m_iret hx hb hr hlocks hM hS (Nat.le_refl _) (Nat.le_refl _) dX10_lend_64 (by refine ⟨(by show _ = (if vB b ∧ vB fr0 then _ else _); rw [if_pos ⟨c_7, c_17⟩]; exact (if_neg (na2 c_36)).symm), ?_, hk⟩; show mR E _ y b1 b2 b3 b4 b5 b6 b7 b8 b9 b10 b11 b12 b13 b14 b15 b16 (if vB b ∧ vB fr0 then _ else _); rw [if_pos ⟨c_7, c_17⟩, if_neg c_36, hjbc, hbk, hjbc5]; exact ⟨_, _, _, _, _, _, _, _, _, _, _, _, _, _, _, _, _, ⟨g_y, g_b1, g_b2, g_b3, g_b4, g_b5, g_b6, g_b7, g_b8, g_b9, g_b10, g_b11, g_b12, g_b13, g_b14, g_b15, g_b16⟩, (hB.up rfl), hT, (hR.mono live_B0), hN, hF, hc2, hc3, hc4⟩)
        · skip
          refine lv_bipush (v := -5) hx hb dX10_lend_39 (by decide) ?_
          exact m_iret hx hb hr hlocks hM hS (Nat.le_refl _) (Nat.le_refl _) dX10_lend_41 (by refine ⟨(by show _ = (if vB b ∧ vB fr0 then _ else _); rw [if_pos ⟨c_7, c_17⟩, hjbc]; exact (if_pos ⟨hbk, c_36⟩).symm), ?_, hk⟩; show mR E _ y b1 b2 b3 b4 b5 b6 b7 b8 b9 b10 b11 b12 b13 b14 b15 b16 (if vB b ∧ vB fr0 then _ else _); rw [if_pos ⟨c_7, c_17⟩, if_pos c_36, hjbc, hbk]; exact hC0)
      · skip
        have hlv : live nn ins bk w := Or.inl ⟨jb, hjb, hbk⟩
        rcases hrw : rw w with ⟨lane, n0, f0⟩
        obtain ⟨hLn, hSz, hSm⟩ := hR w hlv _ _ _ hrw
        have hw24 := hv24 w hlv
        obtain ⟨hn40, hlane, hvo⟩ := hvR w hlv _ _ _ hrw
        refine lv_if_ge (tgt := 42) hx hb dX10_lend_32 (by decide) (fun _ => ?_) (fun h9 => absurd ((nI_leI (a := 0) (by decide) (by omega)).mpr (Nat.zero_le w)) h9)
        rw [hbk] at hl
        replace hl : lv_has ls 5 [(4, .int (nI w)), (0, .ref y), (1, .int b), (2, .int fr0), (3, .int o)] := hl
        refine lv_aload_n hx hb dX10_lend_42 rfl (lv_at hl 1 rfl) ?_
        refine m_get (ci := 8) (v := .ref b1) (C := RX10) (T := TX10) (N := 21) hx hb hts in_X10_lend_X10 hown hE hM g_y rfl 0 (by decide) (hts (.fieldLink RX10 7 "CallWays2Model" "blocks" "[I") (by decide +kernel)) (fun _ h9 => h9) rfl dX10_lend_43 ?_
        refine lv_iload_n hx hb dX10_lend_46 rfl (lv_at hl 2 rfl) ?_
        refine lv_iload_n hx hb dX10_lend_47 rfl (lv_at hl 4 rfl) ?_
        refine lv_if_eq (tgt := 56) hx hb dX10_lend_48 (by decide) (fun c_48 => ?_) (fun c_48 => ?_)
        · skip
          obtain ⟨fr, efr⟩ : ∃ z, z = fresh bk (tbs ins) := ⟨_, rfl⟩
          have hwf : w ≠ fr := fr_ne efr hjb hbk
          refine lv_aload_n hx hb dX10_lend_56 rfl (lv_at hl 1 rfl) ?_
          refine lv_iload hx hb dX10_lend_57 (lv_at hl 0 rfl) ?_
          refine m_calli (va_runV (As := [.int (nI w)]) (rest := [.int b, .ref b1]) ⟨hx, hb, hml, hown, hts⟩ (c_X10_copyOf l E M H.size y b1 b2 b3 b4 b5 b6 b7 b8 b9 b10 b11 b12 b13 b14 b15 b16 (nI nn) (nI nf) bd st fa B T LN SZ SM bk (tbs ins) fr w efr hw24 hwf hB hT h24 h24t (nd_ne hnd 3 4 rfl rfl (by decide)) g_y g_b1 g_b2 g_b3 g_b4 g_b5) (cwV 1 hts gX10_lend_X10_copyOf rfl rfl rfl (by decide +kernel) ⟨Nat.le_of_ble_eq_true rfl, Nat.le_of_ble_eq_true rfl⟩) (m_preV hE hM g_y rfl) rfl rfl hl.1 rfl (lv_room (Nat.le_of_ble_eq_true rfl)) dX10_lend_59 ⟨Nat.le_of_ble_eq_true rfl, Nat.le_of_ble_eq_true rfl⟩) hM hS hA (fun r4 M2 H locs hw hM hS => ?_)
          obtain ⟨e_r4, eM2⟩ := hw
          subst e_r4
          have g_y_ : M2 y = some (mO 8 [.ref b1, .ref b2, .ref b3, .ref b4, .ref b5, .int (nI nn), .ref b6, .ref b7, .ref b8, .ref b9, .ref b10, .ref b11, .int (nI nf), .ref b12, .ref b13, .int bd, .int st, .int fa, .ref b14, .ref b15, .ref b16]) := by rw [eM2]; exact tri_ne g_y (nd_ne hnd 0 3 rfl rfl (by decide)) (nd_ne hnd 0 4 rfl rfl (by decide)) (nd_ne hnd 0 5 rfl rfl (by decide))
          have g_b1_ : M2 b1 = some (mI E 10 B) := by rw [eM2]; exact tri_ne g_b1 (nd_ne hnd 1 3 rfl rfl (by decide)) (nd_ne hnd 1 4 rfl rfl (by decide)) (nd_ne hnd 1 5 rfl rfl (by decide))
          have g_b2_ : M2 b2 = some (mI E 12 T) := by rw [eM2]; exact tri_ne g_b2 (nd_ne hnd 2 3 rfl rfl (by decide)) (nd_ne hnd 2 4 rfl rfl (by decide)) (nd_ne hnd 2 5 rfl rfl (by decide))
          have g_b6_ : M2 b6 = some (mI E 12 SO) := by rw [eM2]; exact tri_ne g_b6 (nd_ne hnd 6 3 rfl rfl (by decide)) (nd_ne hnd 6 4 rfl rfl (by decide)) (nd_ne hnd 6 5 rfl rfl (by decide))
          have g_b7_ : M2 b7 = some (mI E 48 KN) := by rw [eM2]; exact tri_ne g_b7 (nd_ne hnd 7 3 rfl rfl (by decide)) (nd_ne hnd 7 4 rfl rfl (by decide)) (nd_ne hnd 7 5 rfl rfl (by decide))
          have g_b8_ : M2 b8 = some (mI E 12 PI) := by rw [eM2]; exact tri_ne g_b8 (nd_ne hnd 8 3 rfl rfl (by decide)) (nd_ne hnd 8 4 rfl rfl (by decide)) (nd_ne hnd 8 5 rfl rfl (by decide))
          have g_b9_ : M2 b9 = some (mZ E 12 ON) := by rw [eM2]; exact tri_ne g_b9 (nd_ne hnd 9 3 rfl rfl (by decide)) (nd_ne hnd 9 4 rfl rfl (by decide)) (nd_ne hnd 9 5 rfl rfl (by decide))
          have g_b10_ : M2 b10 = some (mI E 12 PH) := by rw [eM2]; exact tri_ne g_b10 (nd_ne hnd 10 3 rfl rfl (by decide)) (nd_ne hnd 10 4 rfl rfl (by decide)) (nd_ne hnd 10 5 rfl rfl (by decide))
          have g_b11_ : M2 b11 = some (mDb E 12 LE) := by rw [eM2]; exact tri_ne g_b11 (nd_ne hnd 11 3 rfl rfl (by decide)) (nd_ne hnd 11 4 rfl rfl (by decide)) (nd_ne hnd 11 5 rfl rfl (by decide))
          have g_b12_ : M2 b12 = some (mI E 8 KD) := by rw [eM2]; exact tri_ne g_b12 (nd_ne hnd 12 3 rfl rfl (by decide)) (nd_ne hnd 12 4 rfl rfl (by decide)) (nd_ne hnd 12 5 rfl rfl (by decide))
          have g_b13_ : M2 b13 = some (mI E 8 NM) := by rw [eM2]; exact tri_ne g_b13 (nd_ne hnd 13 3 rfl rfl (by decide)) (nd_ne hnd 13 4 rfl rfl (by decide)) (nd_ne hnd 13 5 rfl rfl (by decide))
          have g_b14_ : M2 b14 = some (mI E 3 CT) := by rw [eM2]; exact tri_ne g_b14 (nd_ne hnd 14 3 rfl rfl (by decide)) (nd_ne hnd 14 4 rfl rfl (by decide)) (nd_ne hnd 14 5 rfl rfl (by decide))
          have g_b15_ : M2 b15 = some (mDb E 40 CM) := by rw [eM2]; exact tri_ne g_b15 (nd_ne hnd 15 3 rfl rfl (by decide)) (nd_ne hnd 15 4 rfl rfl (by decide)) (nd_ne hnd 15 5 rfl rfl (by decide))
          have g_b16_ : M2 b16 = some (mJ E 40 MV) := by rw [eM2]; exact tri_ne g_b16 (nd_ne hnd 16 3 rfl rfl (by decide)) (nd_ne hnd 16 4 rfl rfl (by decide)) (nd_ne hnd 16 5 rfl rfl (by decide))
          have g_y := g_y_
          have g_b1 := g_b1_
          have g_b2 := g_b2_
          have g_b6 := g_b6_
          have g_b7 := g_b7_
          have g_b8 := g_b8_
          have g_b9 := g_b9_
          have g_b10 := g_b10_
          have g_b11 := g_b11_
          have g_b12 := g_b12_
          have g_b13 := g_b13_
          have g_b14 := g_b14_
          have g_b15 := g_b15_
          have g_b16 := g_b16_
          have g_b3 : M2 b3 = some (mI E 24 (upd LN fr (LN w))) := by rw [eM2]; exact tri_gp (nd_ne hnd 3 4 rfl rfl (by decide)) (nd_ne hnd 3 5 rfl rfl (by decide))
          have g_b4 : M2 b4 = some (mI E 24 (upd SZ fr (SZ w))) := by rw [eM2]; exact tri_gx (nd_ne hnd 4 5 rfl rfl (by decide))
          have g_b5 : M2 b5 = some (mJ E 960 (va_cpy SM (zro SM (40 * fr) 40) (40 * w) (40 * fr) 40)) := by rw [eM2]; exact tri_ga
          have hk : kept (nol y b1 b2 b3 b4 b5 b6 b7 b8 b9 b10 b11 b12 b13 b14 b15 b16) M M2 := (by rw [eM2]; exact hk.tri (nol_in 3 rfl) (nol_in 4 rfl) (nol_in 5 rfl))
          refine m_iast hx hb hE hM hS g_b1 hbin5 dX10_lend_62 (fun H locs hM hS => ?_)
          rw [show upd B b.toNatClampNeg (nI fr) = upd B jb5 (nI fr) from by rw [hjbc5]] at hM
          have hM : mOK E.1 (mA M sz) (mUp M2 b1 (mI E 10 (upd B jb5 (nI fr)))) H := hM
          obtain ⟨M3, eM3⟩ : ∃ z, z = mUp M2 b1 (mI E 10 (upd B jb5 (nI fr))) := ⟨_, rfl⟩
          rw [← eM3] at hM
          have g_y_ : M3 y = some (mO 8 [.ref b1, .ref b2, .ref b3, .ref b4, .ref b5, .int (nI nn), .ref b6, .ref b7, .ref b8, .ref b9, .ref b10, .ref b11, .int (nI nf), .ref b12, .ref b13, .int bd, .int st, .int fa, .ref b14, .ref b15, .ref b16]) := by rw [eM3]; exact mUp_at (nd_ne hnd 0 1 rfl rfl (by decide)) g_y
          have g_b2_ : M3 b2 = some (mI E 12 T) := by rw [eM3]; exact mUp_at (nd_ne hnd 2 1 rfl rfl (by decide)) g_b2
          have g_b3_ : M3 b3 = some (mI E 24 (upd LN fr (LN w))) := by rw [eM3]; exact mUp_at (nd_ne hnd 3 1 rfl rfl (by decide)) g_b3
          have g_b4_ : M3 b4 = some (mI E 24 (upd SZ fr (SZ w))) := by rw [eM3]; exact mUp_at (nd_ne hnd 4 1 rfl rfl (by decide)) g_b4
          have g_b5_ : M3 b5 = some (mJ E 960 (va_cpy SM (zro SM (40 * fr) 40) (40 * w) (40 * fr) 40)) := by rw [eM3]; exact mUp_at (nd_ne hnd 5 1 rfl rfl (by decide)) g_b5
          have g_b6_ : M3 b6 = some (mI E 12 SO) := by rw [eM3]; exact mUp_at (nd_ne hnd 6 1 rfl rfl (by decide)) g_b6
          have g_b7_ : M3 b7 = some (mI E 48 KN) := by rw [eM3]; exact mUp_at (nd_ne hnd 7 1 rfl rfl (by decide)) g_b7
          have g_b8_ : M3 b8 = some (mI E 12 PI) := by rw [eM3]; exact mUp_at (nd_ne hnd 8 1 rfl rfl (by decide)) g_b8
          have g_b9_ : M3 b9 = some (mZ E 12 ON) := by rw [eM3]; exact mUp_at (nd_ne hnd 9 1 rfl rfl (by decide)) g_b9
          have g_b10_ : M3 b10 = some (mI E 12 PH) := by rw [eM3]; exact mUp_at (nd_ne hnd 10 1 rfl rfl (by decide)) g_b10
          have g_b11_ : M3 b11 = some (mDb E 12 LE) := by rw [eM3]; exact mUp_at (nd_ne hnd 11 1 rfl rfl (by decide)) g_b11
          have g_b12_ : M3 b12 = some (mI E 8 KD) := by rw [eM3]; exact mUp_at (nd_ne hnd 12 1 rfl rfl (by decide)) g_b12
          have g_b13_ : M3 b13 = some (mI E 8 NM) := by rw [eM3]; exact mUp_at (nd_ne hnd 13 1 rfl rfl (by decide)) g_b13
          have g_b14_ : M3 b14 = some (mI E 3 CT) := by rw [eM3]; exact mUp_at (nd_ne hnd 14 1 rfl rfl (by decide)) g_b14
          have g_b15_ : M3 b15 = some (mDb E 40 CM) := by rw [eM3]; exact mUp_at (nd_ne hnd 15 1 rfl rfl (by decide)) g_b15
          have g_b16_ : M3 b16 = some (mJ E 40 MV) := by rw [eM3]; exact mUp_at (nd_ne hnd 16 1 rfl rfl (by decide)) g_b16
          have g_y := g_y_
          have g_b2 := g_b2_
          have g_b3 := g_b3_
          have g_b4 := g_b4_
          have g_b5 := g_b5_
          have g_b6 := g_b6_
          have g_b7 := g_b7_
          have g_b8 := g_b8_
          have g_b9 := g_b9_
          have g_b10 := g_b10_
          have g_b11 := g_b11_
          have g_b12 := g_b12_
          have g_b13 := g_b13_
          have g_b14 := g_b14_
          have g_b15 := g_b15_
          have g_b16 := g_b16_
          have g_b1 : M3 b1 = some (mI E 10 (upd B jb5 (nI fr))) := by rw [eM3]; exact mUp_self _ _ _
          have hk : kept (nol y b1 b2 b3 b4 b5 b6 b7 b8 b9 b10 b11 b12 b13 b14 b15 b16) M M3 := (by rw [eM3]; exact hk.up (nol_in 1 rfl))
          refine lv_iconst (v := 1) hx hb dX10_lend_63 (by decide) ?_
          exact m_iret hx hb hr hlocks hM hS (Nat.le_refl _) (Nat.le_refl _) dX10_lend_64 (by refine ⟨(by show _ = (if vB b ∧ vB fr0 then _ else _); rw [if_pos ⟨c_7, c_17⟩, hjbc, hbk]; exact (if_neg (na1 (by simp))).symm), ?_, hk⟩; show mR E _ y b1 b2 b3 b4 b5 b6 b7 b8 b9 b10 b11 b12 b13 b14 b15 b16 (if vB b ∧ vB fr0 then _ else _); rw [if_pos ⟨c_7, c_17⟩, if_pos c_48, hjbc, hbk, hjbc5]; show mR E _ y b1 b2 b3 b4 b5 b6 b7 b8 b9 b10 b11 b12 b13 b14 b15 b16 (nn, ins, nf, fn, va_up bk jb5 (some (fresh bk (tbs ins))), va_up rw (fresh bk (tbs ins)) (rw w), bd, st, c2, c3, c4); rw [← efr]; exact ⟨_, _, _, _, _, _, _, _, _, _, _, _, _, _, _, _, _, ⟨g_y, g_b1, g_b2, g_b3, g_b4, g_b5, g_b6, g_b7, g_b8, g_b9, g_b10, g_b11, g_b12, g_b13, g_b14, g_b15, g_b16⟩, (hB.up rfl), hT, (rlR_cpy hR (fun r hr => (live_B r hr).imp (live_B0 r) id) h40 hlv), hN, hF, hc2, hc3, hc4⟩)
        · skip
          refine lv_iload hx hb dX10_lend_51 (lv_at hl 0 rfl) ?_
          refine lv_goto (tgt := 62) hx hb dX10_lend_53 (by decide) ?_
          refine m_iast hx hb hE hM hS g_b1 hbin5 dX10_lend_62 (fun H locs hM hS => ?_)
          rw [show upd B b.toNatClampNeg (nI w) = upd B jb5 (nI w) from by rw [hjbc5]] at hM
          have hM : mOK E.1 (mA M sz) (mUp M b1 (mI E 10 (upd B jb5 (nI w)))) H := hM
          obtain ⟨M4, eM4⟩ : ∃ z, z = mUp M b1 (mI E 10 (upd B jb5 (nI w))) := ⟨_, rfl⟩
          rw [← eM4] at hM
          have g_y_ : M4 y = some (mO 8 [.ref b1, .ref b2, .ref b3, .ref b4, .ref b5, .int (nI nn), .ref b6, .ref b7, .ref b8, .ref b9, .ref b10, .ref b11, .int (nI nf), .ref b12, .ref b13, .int bd, .int st, .int fa, .ref b14, .ref b15, .ref b16]) := by rw [eM4]; exact mUp_at (nd_ne hnd 0 1 rfl rfl (by decide)) g_y
          have g_b2_ : M4 b2 = some (mI E 12 T) := by rw [eM4]; exact mUp_at (nd_ne hnd 2 1 rfl rfl (by decide)) g_b2
          have g_b3_ : M4 b3 = some (mI E 24 LN) := by rw [eM4]; exact mUp_at (nd_ne hnd 3 1 rfl rfl (by decide)) g_b3
          have g_b4_ : M4 b4 = some (mI E 24 SZ) := by rw [eM4]; exact mUp_at (nd_ne hnd 4 1 rfl rfl (by decide)) g_b4
          have g_b5_ : M4 b5 = some (mJ E 960 SM) := by rw [eM4]; exact mUp_at (nd_ne hnd 5 1 rfl rfl (by decide)) g_b5
          have g_b6_ : M4 b6 = some (mI E 12 SO) := by rw [eM4]; exact mUp_at (nd_ne hnd 6 1 rfl rfl (by decide)) g_b6
          have g_b7_ : M4 b7 = some (mI E 48 KN) := by rw [eM4]; exact mUp_at (nd_ne hnd 7 1 rfl rfl (by decide)) g_b7
          have g_b8_ : M4 b8 = some (mI E 12 PI) := by rw [eM4]; exact mUp_at (nd_ne hnd 8 1 rfl rfl (by decide)) g_b8
          have g_b9_ : M4 b9 = some (mZ E 12 ON) := by rw [eM4]; exact mUp_at (nd_ne hnd 9 1 rfl rfl (by decide)) g_b9
          have g_b10_ : M4 b10 = some (mI E 12 PH) := by rw [eM4]; exact mUp_at (nd_ne hnd 10 1 rfl rfl (by decide)) g_b10
          have g_b11_ : M4 b11 = some (mDb E 12 LE) := by rw [eM4]; exact mUp_at (nd_ne hnd 11 1 rfl rfl (by decide)) g_b11
          have g_b12_ : M4 b12 = some (mI E 8 KD) := by rw [eM4]; exact mUp_at (nd_ne hnd 12 1 rfl rfl (by decide)) g_b12
          have g_b13_ : M4 b13 = some (mI E 8 NM) := by rw [eM4]; exact mUp_at (nd_ne hnd 13 1 rfl rfl (by decide)) g_b13
          have g_b14_ : M4 b14 = some (mI E 3 CT) := by rw [eM4]; exact mUp_at (nd_ne hnd 14 1 rfl rfl (by decide)) g_b14
          have g_b15_ : M4 b15 = some (mDb E 40 CM) := by rw [eM4]; exact mUp_at (nd_ne hnd 15 1 rfl rfl (by decide)) g_b15
          have g_b16_ : M4 b16 = some (mJ E 40 MV) := by rw [eM4]; exact mUp_at (nd_ne hnd 16 1 rfl rfl (by decide)) g_b16
          have g_y := g_y_
          have g_b2 := g_b2_
          have g_b3 := g_b3_
          have g_b4 := g_b4_
          have g_b5 := g_b5_
          have g_b6 := g_b6_
          have g_b7 := g_b7_
          have g_b8 := g_b8_
          have g_b9 := g_b9_
          have g_b10 := g_b10_
          have g_b11 := g_b11_
          have g_b12 := g_b12_
          have g_b13 := g_b13_
          have g_b14 := g_b14_
          have g_b15 := g_b15_
          have g_b16 := g_b16_
          have g_b1 : M4 b1 = some (mI E 10 (upd B jb5 (nI w))) := by rw [eM4]; exact mUp_self _ _ _
          have hk : kept (nol y b1 b2 b3 b4 b5 b6 b7 b8 b9 b10 b11 b12 b13 b14 b15 b16) M M4 := (by rw [eM4]; exact hk.up (nol_in 1 rfl))
          refine lv_iconst (v := 1) hx hb dX10_lend_63 (by decide) ?_
          exact m_iret hx hb hr hlocks hM hS (Nat.le_refl _) (Nat.le_refl _) dX10_lend_64 (by refine ⟨(by show _ = (if vB b ∧ vB fr0 then _ else _); rw [if_pos ⟨c_7, c_17⟩]; exact (if_neg (na2 c_48)).symm), ?_, hk⟩; show mR E _ y b1 b2 b3 b4 b5 b6 b7 b8 b9 b10 b11 b12 b13 b14 b15 b16 (if vB b ∧ vB fr0 then _ else _); rw [if_pos ⟨c_7, c_17⟩, if_neg c_48, hjbc, hbk, hjbc5]; exact ⟨_, _, _, _, _, _, _, _, _, _, _, _, _, _, _, _, _, ⟨g_y, g_b1, g_b2, g_b3, g_b4, g_b5, g_b6, g_b7, g_b8, g_b9, g_b10, g_b11, g_b12, g_b13, g_b14, g_b15, g_b16⟩, (hB.up rfl), hT, (hR.mono (fun r hr => (live_B r hr).elim (live_B0 r) (fun q => q ▸ hlv))), hN, hF, hc2, hc3, hc4⟩)
    · skip
      rw [bI_eq] at c_17
      have hz : ¬ (vB b ∧ vB fr0) := na2 c_17
      refine lv_iconst (v := -1) hx hb dX10_lend_20 (by decide) ?_
      exact m_iret hx hb hr hlocks hM hS (Nat.le_refl _) (Nat.le_refl _) dX10_lend_21 (by refine ⟨(if_neg hz).symm, ?_, hk⟩; show mR E _ y b1 b2 b3 b4 b5 b6 b7 b8 b9 b10 b11 b12 b13 b14 b15 b16 (if vB b ∧ vB fr0 then _ else _); rw [if_neg hz]; exact hC0)
theorem in_X10_table_X10 : ∀ w ∈ wsX100, w ∈ wsX10_table := by decide +kernel
set_option maxHeartbeats 4000000 in
set_option maxRecDepth 100000 in
theorem c_X10_table (l : Launch) (E : mEnv) (M : mMem) (sz : Nat) (y b1 b2 b3 b4 b5 b6 b7 b8 b9 b10 b11 b12 b13 b14 b15 b16 nn nf : Nat) (ins : Nat → sIn) (fn : Nat → Int32 × Int32) (bk : Nat → Option Nat) (rw : Nat → sRw) (bd st c2 c3 c4 : Int32) (hV : Inv (nn, ins, nf, fn, bk, rw, bd, st, c2, c3, c4)) (hC : mR E M y b1 b2 b3 b4 b5 b6 b7 b8 b9 b10 b11 b12 b13 b14 b15 b16 (nn, ins, nf, fn, bk, rw, bd, st, c2, c3, c4)) (hnd : [y, b1, b2, b3, b4, b5, b6, b7, b8, b9, b10, b11, b12, b13, b14, b15, b16].Nodup) (i b o : Int32)    : Met l yX10_table wsX10_table ({ frames := 2, cells := 0, slots := 0, locals := 48 }) (mPre E M sz [.ref y, .int i, .int b, .int o]) (mQi E M sz (fun r u => r = aTable (nn, ins, nf, fn, bk, rw, bd, st, c2, c3, c4) i b o ∧ mR E u y b1 b2 b3 b4 b5 b6 b7 b8 b9 b10 b11 b12 b13 b14 b15 b16 (nTable (nn, ins, nf, fn, bk, rw, bd, st, c2, c3, c4) i b o) ∧ kept (nol y b1 b2 b3 b4 b5 b6 b7 b8 b9 b10 b11 b12 b13 b14 b15 b16) M u)) (0) (0) (mA M sz) := by
  refine m_met [.ref y, .int i, .int b, .int o] (by decide) rfl (Nat.le_of_ble_eq_true rfl) ?_
  intro p e s m below meth c ls H eH hx hb hr hts hown hlocks hnm hml hsz hE hM hS hA hl
  have hl : lv_has ls 5 [(0, .ref y), (1, .int i), (2, .int b), (3, .int o)] := hl
  have hC0 := hC
  obtain ⟨fa, B, T, LN, SZ, SM, SO, KN, PI, ON, PH, LE, KD, NM, CT, CM, MV, ⟨g_y, g_b1, g_b2, g_b3, g_b4, g_b5, g_b6, g_b7, g_b8, g_b9, g_b10, g_b11, g_b12, g_b13, g_b14, g_b15, g_b16⟩, hB, hT, hR, hN, hF, hc2, hc3, hc4⟩ := hC
  have hiK := hV.insK
  have h24t := hV.tb24
  have h40 := hV.n40
  obtain ⟨hnn, hnf, hvI, hvD, hv24, hvR, hvF⟩ := id hV
  have h24 : ∀ k, k < 10 → ∀ r, bk k = some r → r < 24 := fun k hk r hr => hv24 r (Or.inl ⟨k, hk, hr⟩)
  have hk : kept (nol y b1 b2 b3 b4 b5 b6 b7 b8 b9 b10 b11 b12 b13 b14 b15 b16) M M := kept.rf
  refine lv_aload_n hx hb dX10_table_0 rfl (lv_at hl 0 rfl) ?_
  refine lv_iload_n hx hb dX10_table_1 rfl (lv_at hl 1 rfl) ?_
  refine m_calli (va_runV (As := [.int i]) (rest := []) ⟨hx, hb, hml, hown, hts⟩ (c_X10_isInst l E M H.size y b1 b2 b3 b4 b5 b6 b7 b8 b9 b10 b11 b12 b13 b14 b15 b16 (nI nf) bd st fa nn hnn i g_y) (cwV 1 hts gX10_table_X10_isInstrument rfl rfl rfl (by decide +kernel) ⟨Nat.le_of_ble_eq_true rfl, Nat.le_of_ble_eq_true rfl⟩) (m_preV hE hM g_y rfl) rfl rfl hl.1 rfl (lv_room (Nat.le_of_ble_eq_true rfl)) dX10_table_2 ⟨Nat.le_of_ble_eq_true rfl, Nat.le_of_ble_eq_true rfl⟩) hM hS hA (fun r0 u H locs hw hM hS => ?_)
  obtain ⟨e_r0, eu⟩ := hw
  rw [eu] at hM
  subst e_r0
  refine lv_if_eq (tgt := 18) hx hb dX10_table_5 (by decide) (fun c_5 => ?_) (fun c_5 => ?_)
  · skip
    rw [bI_eq] at c_5
    have hz : ¬ (vT nn i b) := na1 c_5
    refine lv_iconst (v := -1) hx hb dX10_table_18 (by decide) ?_
    exact m_iret hx hb hr hlocks hM hS (Nat.le_refl _) (Nat.le_refl _) dX10_table_19 (by refine ⟨(if_neg hz).symm, ?_, hk⟩; show mR E _ y b1 b2 b3 b4 b5 b6 b7 b8 b9 b10 b11 b12 b13 b14 b15 b16 (if vT nn i b then _ else _); rw [if_neg hz]; exact hC0)
  · skip
    rw [bI_ne] at c_5
    obtain ⟨j, hj, hij, hjc⟩ := vI_ix c_5 hnn
    have hiin : vp_in i 12 := (by rw [hij]; exact vp_in_nI (by omega) (by decide))
    refine lv_iload_n hx hb dX10_table_8 rfl (lv_at hl 2 rfl) ?_
    refine lv_iconst (v := -1) hx hb dX10_table_9 (by decide) ?_
    refine lv_bipush (v := 9) hx hb dX10_table_10 (by decide) ?_
    refine m_calli (va_runS (As := [.int b, .int (-1), .int 9]) (rest := []) ⟨hx, hb, hml, hown, hts⟩ (c_X10_in l E M H.size b (-1) 9) (va_cwS 3 hts gX10_table_X10_in rfl rfl rfl (by decide +kernel) ⟨Nat.le_of_ble_eq_true rfl, Nat.le_of_ble_eq_true rfl⟩) (m_preS hE hM) rfl rfl hl.1 rfl (lv_room (Nat.le_of_ble_eq_true rfl)) dX10_table_12 ⟨Nat.le_of_ble_eq_true rfl, Nat.le_of_ble_eq_true rfl⟩) hM hS hA (fun r0 u H locs hw hM hS => ?_)
    obtain ⟨e_r0, eu⟩ := hw
    rw [eu] at hM
    rw [bI_congr (in_m19)] at e_r0
    subst e_r0
    refine lv_if_ne (tgt := 20) hx hb dX10_table_15 (by decide) (fun c_15 => ?_) (fun c_15 => ?_)
    · skip
      rw [bI_ne] at c_15
      have hv9 : vT nn i b := ⟨c_5, c_15⟩
      refine lv_iload_n hx hb dX10_table_20 rfl (lv_at hl 2 rfl) ?_
      refine lv_if_ge (tgt := 28) hx hb dX10_table_21 (by decide) (fun c_21 => ?_) (fun c_21 => ?_)
      · skip
        have hvb : vB b := c_15.resolve_left (fun q => (by rw [q] at c_21; exact absurd c_21 (by decide)))
        obtain ⟨jb, hjb, hbj, hjbc⟩ := vB_ix hvb
        have hbin : vp_in b 10 := (by rw [hbj]; exact vp_in_nI (by omega) (by decide))
        refine lv_aload_n hx hb dX10_table_28 rfl (lv_at hl 0 rfl) ?_
        refine m_get (ci := 8) (v := .ref b1) (C := RX10) (T := TX10) (N := 21) hx hb hts in_X10_table_X10 hown hE hM g_y rfl 0 (by decide) (hts (.fieldLink RX10 7 "CallWays2Model" "blocks" "[I") (by decide +kernel)) (fun _ h9 => h9) rfl dX10_table_29 ?_
        refine lv_iload_n hx hb dX10_table_32 rfl (lv_at hl 2 rfl) ?_
        refine m_iald hx hb hE hM g_b1 hbin dX10_table_33 ?_
        rw [show B b.toNatClampNeg = rI (bk jb) from by rw [hjbc]; exact hB jb hjb]
        refine lv_istore (lv' := [(4, .int (rI (bk jb))), (0, .ref y), (1, .int i), (2, .int b), (3, .int o)]) hx hb dX10_table_34 hl (by decide) rfl (fun ls hl => ?_)
        refine lv_aload_n hx hb dX10_table_36 rfl (lv_at hl 1 rfl) ?_
        refine m_get (ci := 8) (v := .ref b2) (C := RX10) (T := TX10) (N := 21) hx hb hts in_X10_table_X10 hown hE hM g_y rfl 1 (by decide) (hts (.fieldLink RX10 13 "CallWays2Model" "tables" "[I") (by decide +kernel)) (fun _ h9 => h9) rfl dX10_table_37 ?_
        refine lv_iload_n hx hb dX10_table_40 rfl (lv_at hl 2 rfl) ?_
        refine lv_iconst (v := -1) hx hb dX10_table_41 (by decide) ?_
        refine m_iast hx hb hE hM hS g_b2 hiin dX10_table_42 (fun H locs hM hS => ?_)
        rw [show upd T i.toNatClampNeg (-1) = upd T j (-1) from by rw [hjc]] at hM
        have hM : mOK E.1 (mA M sz) (mUp M b2 (mI E 12 (upd T j (-1)))) H := hM
        obtain ⟨M1, eM1⟩ : ∃ z, z = mUp M b2 (mI E 12 (upd T j (-1))) := ⟨_, rfl⟩
        rw [← eM1] at hM
        have g_y_ : M1 y = some (mO 8 [.ref b1, .ref b2, .ref b3, .ref b4, .ref b5, .int (nI nn), .ref b6, .ref b7, .ref b8, .ref b9, .ref b10, .ref b11, .int (nI nf), .ref b12, .ref b13, .int bd, .int st, .int fa, .ref b14, .ref b15, .ref b16]) := by rw [eM1]; exact mUp_at (nd_ne hnd 0 2 rfl rfl (by decide)) g_y
        have g_b1_ : M1 b1 = some (mI E 10 B) := by rw [eM1]; exact mUp_at (nd_ne hnd 1 2 rfl rfl (by decide)) g_b1
        have g_b3_ : M1 b3 = some (mI E 24 LN) := by rw [eM1]; exact mUp_at (nd_ne hnd 3 2 rfl rfl (by decide)) g_b3
        have g_b4_ : M1 b4 = some (mI E 24 SZ) := by rw [eM1]; exact mUp_at (nd_ne hnd 4 2 rfl rfl (by decide)) g_b4
        have g_b5_ : M1 b5 = some (mJ E 960 SM) := by rw [eM1]; exact mUp_at (nd_ne hnd 5 2 rfl rfl (by decide)) g_b5
        have g_b6_ : M1 b6 = some (mI E 12 SO) := by rw [eM1]; exact mUp_at (nd_ne hnd 6 2 rfl rfl (by decide)) g_b6
        have g_b7_ : M1 b7 = some (mI E 48 KN) := by rw [eM1]; exact mUp_at (nd_ne hnd 7 2 rfl rfl (by decide)) g_b7
        have g_b8_ : M1 b8 = some (mI E 12 PI) := by rw [eM1]; exact mUp_at (nd_ne hnd 8 2 rfl rfl (by decide)) g_b8
        have g_b9_ : M1 b9 = some (mZ E 12 ON) := by rw [eM1]; exact mUp_at (nd_ne hnd 9 2 rfl rfl (by decide)) g_b9
        have g_b10_ : M1 b10 = some (mI E 12 PH) := by rw [eM1]; exact mUp_at (nd_ne hnd 10 2 rfl rfl (by decide)) g_b10
        have g_b11_ : M1 b11 = some (mDb E 12 LE) := by rw [eM1]; exact mUp_at (nd_ne hnd 11 2 rfl rfl (by decide)) g_b11
        have g_b12_ : M1 b12 = some (mI E 8 KD) := by rw [eM1]; exact mUp_at (nd_ne hnd 12 2 rfl rfl (by decide)) g_b12
        have g_b13_ : M1 b13 = some (mI E 8 NM) := by rw [eM1]; exact mUp_at (nd_ne hnd 13 2 rfl rfl (by decide)) g_b13
        have g_b14_ : M1 b14 = some (mI E 3 CT) := by rw [eM1]; exact mUp_at (nd_ne hnd 14 2 rfl rfl (by decide)) g_b14
        have g_b15_ : M1 b15 = some (mDb E 40 CM) := by rw [eM1]; exact mUp_at (nd_ne hnd 15 2 rfl rfl (by decide)) g_b15
        have g_b16_ : M1 b16 = some (mJ E 40 MV) := by rw [eM1]; exact mUp_at (nd_ne hnd 16 2 rfl rfl (by decide)) g_b16
        have g_y := g_y_
        have g_b1 := g_b1_
        have g_b3 := g_b3_
        have g_b4 := g_b4_
        have g_b5 := g_b5_
        have g_b6 := g_b6_
        have g_b7 := g_b7_
        have g_b8 := g_b8_
        have g_b9 := g_b9_
        have g_b10 := g_b10_
        have g_b11 := g_b11_
        have g_b12 := g_b12_
        have g_b13 := g_b13_
        have g_b14 := g_b14_
        have g_b15 := g_b15_
        have g_b16 := g_b16_
        have g_b2 : M1 b2 = some (mI E 12 (upd T j (-1))) := by rw [eM1]; exact mUp_self _ _ _
        have hk : kept (nol y b1 b2 b3 b4 b5 b6 b7 b8 b9 b10 b11 b12 b13 b14 b15 b16) M M1 := (by rw [eM1]; exact hk.up (nol_in 2 rfl))
        refine lv_aload_n hx hb dX10_table_43 rfl (lv_at hl 1 rfl) ?_
        refine m_get (ci := 8) (v := .ref b2) (C := RX10) (T := TX10) (N := 21) hx hb hts in_X10_table_X10 hown hE hM g_y rfl 1 (by decide) (hts (.fieldLink RX10 13 "CallWays2Model" "tables" "[I") (by decide +kernel)) (fun _ h9 => h9) rfl dX10_table_44 ?_
        refine lv_iload_n hx hb dX10_table_47 rfl (lv_at hl 2 rfl) ?_
        refine lv_iload hx hb dX10_table_48 (lv_at hl 0 rfl) ?_
        rcases hbk : bk jb with _ | w
        · refine lv_if_lt (tgt := 57) hx hb dX10_table_50 (by decide) (fun _ => ?_) (fun h9 => absurd (by decide) h9)
          rw [hbk] at hl
          replace hl : lv_has ls 5 [(4, .int (-1)), (0, .ref y), (1, .int i), (2, .int b), (3, .int o)] := hl
          refine lv_iload hx hb dX10_table_57 (lv_at hl 0 rfl) ?_
          refine lv_goto (tgt := 68) hx hb dX10_table_59 (by decide) ?_
          refine m_iast hx hb hE hM hS g_b2 hiin dX10_table_68 (fun H locs hM hS => ?_)
          rw [show upd (upd T j (-1)) i.toNatClampNeg (-1) = upd T j (-1) from by rw [hjc, upd_up]] at hM
          have hM : mOK E.1 (mA M sz) (mUp M1 b2 (mI E 12 (upd T j (-1)))) H := hM
          obtain ⟨M2, eM2⟩ : ∃ z, z = mUp M1 b2 (mI E 12 (upd T j (-1))) := ⟨_, rfl⟩
          rw [← eM2] at hM
          have g_y_ : M2 y = some (mO 8 [.ref b1, .ref b2, .ref b3, .ref b4, .ref b5, .int (nI nn), .ref b6, .ref b7, .ref b8, .ref b9, .ref b10, .ref b11, .int (nI nf), .ref b12, .ref b13, .int bd, .int st, .int fa, .ref b14, .ref b15, .ref b16]) := by rw [eM2]; exact mUp_at (nd_ne hnd 0 2 rfl rfl (by decide)) g_y
          have g_b1_ : M2 b1 = some (mI E 10 B) := by rw [eM2]; exact mUp_at (nd_ne hnd 1 2 rfl rfl (by decide)) g_b1
          have g_b3_ : M2 b3 = some (mI E 24 LN) := by rw [eM2]; exact mUp_at (nd_ne hnd 3 2 rfl rfl (by decide)) g_b3
          have g_b4_ : M2 b4 = some (mI E 24 SZ) := by rw [eM2]; exact mUp_at (nd_ne hnd 4 2 rfl rfl (by decide)) g_b4
          have g_b5_ : M2 b5 = some (mJ E 960 SM) := by rw [eM2]; exact mUp_at (nd_ne hnd 5 2 rfl rfl (by decide)) g_b5
          have g_b6_ : M2 b6 = some (mI E 12 SO) := by rw [eM2]; exact mUp_at (nd_ne hnd 6 2 rfl rfl (by decide)) g_b6
          have g_b7_ : M2 b7 = some (mI E 48 KN) := by rw [eM2]; exact mUp_at (nd_ne hnd 7 2 rfl rfl (by decide)) g_b7
          have g_b8_ : M2 b8 = some (mI E 12 PI) := by rw [eM2]; exact mUp_at (nd_ne hnd 8 2 rfl rfl (by decide)) g_b8
          have g_b9_ : M2 b9 = some (mZ E 12 ON) := by rw [eM2]; exact mUp_at (nd_ne hnd 9 2 rfl rfl (by decide)) g_b9
          have g_b10_ : M2 b10 = some (mI E 12 PH) := by rw [eM2]; exact mUp_at (nd_ne hnd 10 2 rfl rfl (by decide)) g_b10
          have g_b11_ : M2 b11 = some (mDb E 12 LE) := by rw [eM2]; exact mUp_at (nd_ne hnd 11 2 rfl rfl (by decide)) g_b11
          have g_b12_ : M2 b12 = some (mI E 8 KD) := by rw [eM2]; exact mUp_at (nd_ne hnd 12 2 rfl rfl (by decide)) g_b12
          have g_b13_ : M2 b13 = some (mI E 8 NM) := by rw [eM2]; exact mUp_at (nd_ne hnd 13 2 rfl rfl (by decide)) g_b13
          have g_b14_ : M2 b14 = some (mI E 3 CT) := by rw [eM2]; exact mUp_at (nd_ne hnd 14 2 rfl rfl (by decide)) g_b14
          have g_b15_ : M2 b15 = some (mDb E 40 CM) := by rw [eM2]; exact mUp_at (nd_ne hnd 15 2 rfl rfl (by decide)) g_b15
          have g_b16_ : M2 b16 = some (mJ E 40 MV) := by rw [eM2]; exact mUp_at (nd_ne hnd 16 2 rfl rfl (by decide)) g_b16
          have g_y := g_y_
          have g_b1 := g_b1_
          have g_b3 := g_b3_
          have g_b4 := g_b4_
          have g_b5 := g_b5_
          have g_b6 := g_b6_
          have g_b7 := g_b7_
          have g_b8 := g_b8_
          have g_b9 := g_b9_
          have g_b10 := g_b10_
          have g_b11 := g_b11_
          have g_b12 := g_b12_
          have g_b13 := g_b13_
          have g_b14 := g_b14_
          have g_b15 := g_b15_
          have g_b16 := g_b16_
          have g_b2 : M2 b2 = some (mI E 12 (upd T j (-1))) := by rw [eM2]; exact mUp_self _ _ _
          have hk : kept (nol y b1 b2 b3 b4 b5 b6 b7 b8 b9 b10 b11 b12 b13 b14 b15 b16) M M2 := (by rw [eM2]; exact hk.up (nol_in 2 rfl))
          refine lv_iconst (v := 1) hx hb dX10_table_69 (by decide) ?_
          exact m_iret hx hb hr hlocks hM hS (Nat.le_refl _) (Nat.le_refl _) dX10_table_70 (by refine ⟨(by show _ = (if vT nn i b then _ else _); rw [if_pos hv9]), ?_, hk⟩; show mR E _ y b1 b2 b3 b4 b5 b6 b7 b8 b9 b10 b11 b12 b13 b14 b15 b16 (if vT nn i b then _ else _); rw [if_pos hv9, if_pos hvb, hjbc, hbk, hjc];  exact ⟨_, _, _, _, _, _, _, _, _, _, _, _, _, _, _, _, _, ⟨g_y, g_b1, g_b2, g_b3, g_b4, g_b5, g_b6, g_b7, g_b8, g_b9, g_b10, g_b11, g_b12, g_b13, g_b14, g_b15, g_b16⟩, hB, (by rw [tbs_T]; exact hT.up rfl), (hR.mono live_T0), (hN.same (by omega) ⟨rfl, rfl, rfl, rfl, rfl, rfl⟩), hF, hc2, hc3, hc4⟩)
        · skip
          have hlv : live nn ins bk w := Or.inl ⟨jb, hjb, hbk⟩
          rcases hrw : rw w with ⟨lane, n0, f0⟩
          obtain ⟨hLn, hSz, hSm⟩ := hR w hlv _ _ _ hrw
          have hw24 := hv24 w hlv
          obtain ⟨hn40, hlane, hvo⟩ := hvR w hlv _ _ _ hrw
          refine lv_if_lt (tgt := 57) hx hb dX10_table_50 (by decide) (fun h9 => absurd h9 (Int32.not_lt.mpr ((nI_leI (a := 0) (by decide) (by omega)).mpr (Nat.zero_le w)))) (fun _ => ?_)
          rw [hbk] at hl
          replace hl : lv_has ls 5 [(4, .int (nI w)), (0, .ref y), (1, .int i), (2, .int b), (3, .int o)] := hl
          refine lv_iload_n hx hb dX10_table_53 rfl (lv_at hl 4 rfl) ?_
          refine lv_if_eq (tgt := 62) hx hb dX10_table_54 (by decide) (fun c_54 => ?_) (fun c_54 => ?_)
          · skip
            obtain ⟨fr, efr⟩ : ∃ z, z = fresh bk (tbs (insT ins j none)) := ⟨_, rfl⟩
            have hwf : w ≠ fr := fr_ne efr hjb hbk
            refine lv_aload_n hx hb dX10_table_62 rfl (lv_at hl 1 rfl) ?_
            refine lv_iload hx hb dX10_table_63 (lv_at hl 0 rfl) ?_
            refine m_calli (va_runV (As := [.int (nI w)]) (rest := [.int i, .ref b2]) ⟨hx, hb, hml, hown, hts⟩ (c_X10_copyOf l E M1 H.size y b1 b2 b3 b4 b5 b6 b7 b8 b9 b10 b11 b12 b13 b14 b15 b16 (nI nn) (nI nf) bd st fa B (upd T j (-1)) LN SZ SM bk (tbs (insT ins j none)) fr w efr hw24 hwf hB (by rw [tbs_T]; exact hT.up rfl) h24 (by rw [tbs_T]; exact up24t h24t) (nd_ne hnd 3 4 rfl rfl (by decide)) g_y g_b1 g_b2 g_b3 g_b4 g_b5) (cwV 1 hts gX10_table_X10_copyOf rfl rfl rfl (by decide +kernel) ⟨Nat.le_of_ble_eq_true rfl, Nat.le_of_ble_eq_true rfl⟩) (m_preV hE hM g_y rfl) rfl rfl hl.1 rfl (lv_room (Nat.le_of_ble_eq_true rfl)) dX10_table_65 ⟨Nat.le_of_ble_eq_true rfl, Nat.le_of_ble_eq_true rfl⟩) hM hS hA (fun r4 M3 H locs hw hM hS => ?_)
            obtain ⟨e_r4, eM3⟩ := hw
            subst e_r4
            have g_y_ : M3 y = some (mO 8 [.ref b1, .ref b2, .ref b3, .ref b4, .ref b5, .int (nI nn), .ref b6, .ref b7, .ref b8, .ref b9, .ref b10, .ref b11, .int (nI nf), .ref b12, .ref b13, .int bd, .int st, .int fa, .ref b14, .ref b15, .ref b16]) := by rw [eM3]; exact tri_ne g_y (nd_ne hnd 0 3 rfl rfl (by decide)) (nd_ne hnd 0 4 rfl rfl (by decide)) (nd_ne hnd 0 5 rfl rfl (by decide))
            have g_b1_ : M3 b1 = some (mI E 10 B) := by rw [eM3]; exact tri_ne g_b1 (nd_ne hnd 1 3 rfl rfl (by decide)) (nd_ne hnd 1 4 rfl rfl (by decide)) (nd_ne hnd 1 5 rfl rfl (by decide))
            have g_b2_ : M3 b2 = some (mI E 12 (upd T j (-1))) := by rw [eM3]; exact tri_ne g_b2 (nd_ne hnd 2 3 rfl rfl (by decide)) (nd_ne hnd 2 4 rfl rfl (by decide)) (nd_ne hnd 2 5 rfl rfl (by decide))
            have g_b6_ : M3 b6 = some (mI E 12 SO) := by rw [eM3]; exact tri_ne g_b6 (nd_ne hnd 6 3 rfl rfl (by decide)) (nd_ne hnd 6 4 rfl rfl (by decide)) (nd_ne hnd 6 5 rfl rfl (by decide))
            have g_b7_ : M3 b7 = some (mI E 48 KN) := by rw [eM3]; exact tri_ne g_b7 (nd_ne hnd 7 3 rfl rfl (by decide)) (nd_ne hnd 7 4 rfl rfl (by decide)) (nd_ne hnd 7 5 rfl rfl (by decide))
            have g_b8_ : M3 b8 = some (mI E 12 PI) := by rw [eM3]; exact tri_ne g_b8 (nd_ne hnd 8 3 rfl rfl (by decide)) (nd_ne hnd 8 4 rfl rfl (by decide)) (nd_ne hnd 8 5 rfl rfl (by decide))
            have g_b9_ : M3 b9 = some (mZ E 12 ON) := by rw [eM3]; exact tri_ne g_b9 (nd_ne hnd 9 3 rfl rfl (by decide)) (nd_ne hnd 9 4 rfl rfl (by decide)) (nd_ne hnd 9 5 rfl rfl (by decide))
            have g_b10_ : M3 b10 = some (mI E 12 PH) := by rw [eM3]; exact tri_ne g_b10 (nd_ne hnd 10 3 rfl rfl (by decide)) (nd_ne hnd 10 4 rfl rfl (by decide)) (nd_ne hnd 10 5 rfl rfl (by decide))
            have g_b11_ : M3 b11 = some (mDb E 12 LE) := by rw [eM3]; exact tri_ne g_b11 (nd_ne hnd 11 3 rfl rfl (by decide)) (nd_ne hnd 11 4 rfl rfl (by decide)) (nd_ne hnd 11 5 rfl rfl (by decide))
            have g_b12_ : M3 b12 = some (mI E 8 KD) := by rw [eM3]; exact tri_ne g_b12 (nd_ne hnd 12 3 rfl rfl (by decide)) (nd_ne hnd 12 4 rfl rfl (by decide)) (nd_ne hnd 12 5 rfl rfl (by decide))
            have g_b13_ : M3 b13 = some (mI E 8 NM) := by rw [eM3]; exact tri_ne g_b13 (nd_ne hnd 13 3 rfl rfl (by decide)) (nd_ne hnd 13 4 rfl rfl (by decide)) (nd_ne hnd 13 5 rfl rfl (by decide))
            have g_b14_ : M3 b14 = some (mI E 3 CT) := by rw [eM3]; exact tri_ne g_b14 (nd_ne hnd 14 3 rfl rfl (by decide)) (nd_ne hnd 14 4 rfl rfl (by decide)) (nd_ne hnd 14 5 rfl rfl (by decide))
            have g_b15_ : M3 b15 = some (mDb E 40 CM) := by rw [eM3]; exact tri_ne g_b15 (nd_ne hnd 15 3 rfl rfl (by decide)) (nd_ne hnd 15 4 rfl rfl (by decide)) (nd_ne hnd 15 5 rfl rfl (by decide))
            have g_b16_ : M3 b16 = some (mJ E 40 MV) := by rw [eM3]; exact tri_ne g_b16 (nd_ne hnd 16 3 rfl rfl (by decide)) (nd_ne hnd 16 4 rfl rfl (by decide)) (nd_ne hnd 16 5 rfl rfl (by decide))
            have g_y := g_y_
            have g_b1 := g_b1_
            have g_b2 := g_b2_
            have g_b6 := g_b6_
            have g_b7 := g_b7_
            have g_b8 := g_b8_
            have g_b9 := g_b9_
            have g_b10 := g_b10_
            have g_b11 := g_b11_
            have g_b12 := g_b12_
            have g_b13 := g_b13_
            have g_b14 := g_b14_
            have g_b15 := g_b15_
            have g_b16 := g_b16_
            have g_b3 : M3 b3 = some (mI E 24 (upd LN fr (LN w))) := by rw [eM3]; exact tri_gp (nd_ne hnd 3 4 rfl rfl (by decide)) (nd_ne hnd 3 5 rfl rfl (by decide))
            have g_b4 : M3 b4 = some (mI E 24 (upd SZ fr (SZ w))) := by rw [eM3]; exact tri_gx (nd_ne hnd 4 5 rfl rfl (by decide))
            have g_b5 : M3 b5 = some (mJ E 960 (va_cpy SM (zro SM (40 * fr) 40) (40 * w) (40 * fr) 40)) := by rw [eM3]; exact tri_ga
            have hk : kept (nol y b1 b2 b3 b4 b5 b6 b7 b8 b9 b10 b11 b12 b13 b14 b15 b16) M M3 := (by rw [eM3]; exact hk.tri (nol_in 3 rfl) (nol_in 4 rfl) (nol_in 5 rfl))
            refine m_iast hx hb hE hM hS g_b2 hiin dX10_table_68 (fun H locs hM hS => ?_)
            rw [show upd (upd T j (-1)) i.toNatClampNeg (nI fr) = upd T j (nI fr) from by rw [hjc, upd_up]] at hM
            have hM : mOK E.1 (mA M sz) (mUp M3 b2 (mI E 12 (upd T j (nI fr)))) H := hM
            obtain ⟨M4, eM4⟩ : ∃ z, z = mUp M3 b2 (mI E 12 (upd T j (nI fr))) := ⟨_, rfl⟩
            rw [← eM4] at hM
            have g_y_ : M4 y = some (mO 8 [.ref b1, .ref b2, .ref b3, .ref b4, .ref b5, .int (nI nn), .ref b6, .ref b7, .ref b8, .ref b9, .ref b10, .ref b11, .int (nI nf), .ref b12, .ref b13, .int bd, .int st, .int fa, .ref b14, .ref b15, .ref b16]) := by rw [eM4]; exact mUp_at (nd_ne hnd 0 2 rfl rfl (by decide)) g_y
            have g_b1_ : M4 b1 = some (mI E 10 B) := by rw [eM4]; exact mUp_at (nd_ne hnd 1 2 rfl rfl (by decide)) g_b1
            have g_b3_ : M4 b3 = some (mI E 24 (upd LN fr (LN w))) := by rw [eM4]; exact mUp_at (nd_ne hnd 3 2 rfl rfl (by decide)) g_b3
            have g_b4_ : M4 b4 = some (mI E 24 (upd SZ fr (SZ w))) := by rw [eM4]; exact mUp_at (nd_ne hnd 4 2 rfl rfl (by decide)) g_b4
            have g_b5_ : M4 b5 = some (mJ E 960 (va_cpy SM (zro SM (40 * fr) 40) (40 * w) (40 * fr) 40)) := by rw [eM4]; exact mUp_at (nd_ne hnd 5 2 rfl rfl (by decide)) g_b5
            have g_b6_ : M4 b6 = some (mI E 12 SO) := by rw [eM4]; exact mUp_at (nd_ne hnd 6 2 rfl rfl (by decide)) g_b6
            have g_b7_ : M4 b7 = some (mI E 48 KN) := by rw [eM4]; exact mUp_at (nd_ne hnd 7 2 rfl rfl (by decide)) g_b7
            have g_b8_ : M4 b8 = some (mI E 12 PI) := by rw [eM4]; exact mUp_at (nd_ne hnd 8 2 rfl rfl (by decide)) g_b8
            have g_b9_ : M4 b9 = some (mZ E 12 ON) := by rw [eM4]; exact mUp_at (nd_ne hnd 9 2 rfl rfl (by decide)) g_b9
            have g_b10_ : M4 b10 = some (mI E 12 PH) := by rw [eM4]; exact mUp_at (nd_ne hnd 10 2 rfl rfl (by decide)) g_b10
            have g_b11_ : M4 b11 = some (mDb E 12 LE) := by rw [eM4]; exact mUp_at (nd_ne hnd 11 2 rfl rfl (by decide)) g_b11
            have g_b12_ : M4 b12 = some (mI E 8 KD) := by rw [eM4]; exact mUp_at (nd_ne hnd 12 2 rfl rfl (by decide)) g_b12
            have g_b13_ : M4 b13 = some (mI E 8 NM) := by rw [eM4]; exact mUp_at (nd_ne hnd 13 2 rfl rfl (by decide)) g_b13
            have g_b14_ : M4 b14 = some (mI E 3 CT) := by rw [eM4]; exact mUp_at (nd_ne hnd 14 2 rfl rfl (by decide)) g_b14
            have g_b15_ : M4 b15 = some (mDb E 40 CM) := by rw [eM4]; exact mUp_at (nd_ne hnd 15 2 rfl rfl (by decide)) g_b15
            have g_b16_ : M4 b16 = some (mJ E 40 MV) := by rw [eM4]; exact mUp_at (nd_ne hnd 16 2 rfl rfl (by decide)) g_b16
            have g_y := g_y_
            have g_b1 := g_b1_
            have g_b3 := g_b3_
            have g_b4 := g_b4_
            have g_b5 := g_b5_
            have g_b6 := g_b6_
            have g_b7 := g_b7_
            have g_b8 := g_b8_
            have g_b9 := g_b9_
            have g_b10 := g_b10_
            have g_b11 := g_b11_
            have g_b12 := g_b12_
            have g_b13 := g_b13_
            have g_b14 := g_b14_
            have g_b15 := g_b15_
            have g_b16 := g_b16_
            have g_b2 : M4 b2 = some (mI E 12 (upd T j (nI fr))) := by rw [eM4]; exact mUp_self _ _ _
            have hk : kept (nol y b1 b2 b3 b4 b5 b6 b7 b8 b9 b10 b11 b12 b13 b14 b15 b16) M M4 := (by rw [eM4]; exact hk.up (nol_in 2 rfl))
            refine lv_iconst (v := 1) hx hb dX10_table_69 (by decide) ?_
            exact m_iret hx hb hr hlocks hM hS (Nat.le_refl _) (Nat.le_refl _) dX10_table_70 (by refine ⟨(by show _ = (if vT nn i b then _ else _); rw [if_pos hv9]), ?_, hk⟩; show mR E _ y b1 b2 b3 b4 b5 b6 b7 b8 b9 b10 b11 b12 b13 b14 b15 b16 (if vT nn i b then _ else _); rw [if_pos hv9, if_pos hvb, hjbc, hbk, hjc]; show mR E _ y b1 b2 b3 b4 b5 b6 b7 b8 b9 b10 b11 b12 b13 b14 b15 b16 (if o = 0 then (nn, insT ins j (some (fresh bk (tbs (insT ins j none)))), nf, fn, bk, va_up rw (fresh bk (tbs (insT ins j none))) (rw w), bd, st, c2, c3, c4) else _); rw [if_pos c_54, ← efr]; exact ⟨_, _, _, _, _, _, _, _, _, _, _, _, _, _, _, _, _, ⟨g_y, g_b1, g_b2, g_b3, g_b4, g_b5, g_b6, g_b7, g_b8, g_b9, g_b10, g_b11, g_b12, g_b13, g_b14, g_b15, g_b16⟩, hB, (by rw [tbs_T]; exact hT.up rfl), (rlR_cpy hR (fun r hr => (live_T r hr).imp (live_T0 r) id) h40 hlv), (hN.same (by omega) ⟨rfl, rfl, rfl, rfl, rfl, rfl⟩), hF, hc2, hc3, hc4⟩)
          · skip
            refine lv_iload hx hb dX10_table_57 (lv_at hl 0 rfl) ?_
            refine lv_goto (tgt := 68) hx hb dX10_table_59 (by decide) ?_
            refine m_iast hx hb hE hM hS g_b2 hiin dX10_table_68 (fun H locs hM hS => ?_)
            rw [show upd (upd T j (-1)) i.toNatClampNeg (nI w) = upd T j (nI w) from by rw [hjc, upd_up]] at hM
            have hM : mOK E.1 (mA M sz) (mUp M1 b2 (mI E 12 (upd T j (nI w)))) H := hM
            obtain ⟨M5, eM5⟩ : ∃ z, z = mUp M1 b2 (mI E 12 (upd T j (nI w))) := ⟨_, rfl⟩
            rw [← eM5] at hM
            have g_y_ : M5 y = some (mO 8 [.ref b1, .ref b2, .ref b3, .ref b4, .ref b5, .int (nI nn), .ref b6, .ref b7, .ref b8, .ref b9, .ref b10, .ref b11, .int (nI nf), .ref b12, .ref b13, .int bd, .int st, .int fa, .ref b14, .ref b15, .ref b16]) := by rw [eM5]; exact mUp_at (nd_ne hnd 0 2 rfl rfl (by decide)) g_y
            have g_b1_ : M5 b1 = some (mI E 10 B) := by rw [eM5]; exact mUp_at (nd_ne hnd 1 2 rfl rfl (by decide)) g_b1
            have g_b3_ : M5 b3 = some (mI E 24 LN) := by rw [eM5]; exact mUp_at (nd_ne hnd 3 2 rfl rfl (by decide)) g_b3
            have g_b4_ : M5 b4 = some (mI E 24 SZ) := by rw [eM5]; exact mUp_at (nd_ne hnd 4 2 rfl rfl (by decide)) g_b4
            have g_b5_ : M5 b5 = some (mJ E 960 SM) := by rw [eM5]; exact mUp_at (nd_ne hnd 5 2 rfl rfl (by decide)) g_b5
            have g_b6_ : M5 b6 = some (mI E 12 SO) := by rw [eM5]; exact mUp_at (nd_ne hnd 6 2 rfl rfl (by decide)) g_b6
            have g_b7_ : M5 b7 = some (mI E 48 KN) := by rw [eM5]; exact mUp_at (nd_ne hnd 7 2 rfl rfl (by decide)) g_b7
            have g_b8_ : M5 b8 = some (mI E 12 PI) := by rw [eM5]; exact mUp_at (nd_ne hnd 8 2 rfl rfl (by decide)) g_b8
            have g_b9_ : M5 b9 = some (mZ E 12 ON) := by rw [eM5]; exact mUp_at (nd_ne hnd 9 2 rfl rfl (by decide)) g_b9
            have g_b10_ : M5 b10 = some (mI E 12 PH) := by rw [eM5]; exact mUp_at (nd_ne hnd 10 2 rfl rfl (by decide)) g_b10
            have g_b11_ : M5 b11 = some (mDb E 12 LE) := by rw [eM5]; exact mUp_at (nd_ne hnd 11 2 rfl rfl (by decide)) g_b11
            have g_b12_ : M5 b12 = some (mI E 8 KD) := by rw [eM5]; exact mUp_at (nd_ne hnd 12 2 rfl rfl (by decide)) g_b12
            have g_b13_ : M5 b13 = some (mI E 8 NM) := by rw [eM5]; exact mUp_at (nd_ne hnd 13 2 rfl rfl (by decide)) g_b13
            have g_b14_ : M5 b14 = some (mI E 3 CT) := by rw [eM5]; exact mUp_at (nd_ne hnd 14 2 rfl rfl (by decide)) g_b14
            have g_b15_ : M5 b15 = some (mDb E 40 CM) := by rw [eM5]; exact mUp_at (nd_ne hnd 15 2 rfl rfl (by decide)) g_b15
            have g_b16_ : M5 b16 = some (mJ E 40 MV) := by rw [eM5]; exact mUp_at (nd_ne hnd 16 2 rfl rfl (by decide)) g_b16
            have g_y := g_y_
            have g_b1 := g_b1_
            have g_b3 := g_b3_
            have g_b4 := g_b4_
            have g_b5 := g_b5_
            have g_b6 := g_b6_
            have g_b7 := g_b7_
            have g_b8 := g_b8_
            have g_b9 := g_b9_
            have g_b10 := g_b10_
            have g_b11 := g_b11_
            have g_b12 := g_b12_
            have g_b13 := g_b13_
            have g_b14 := g_b14_
            have g_b15 := g_b15_
            have g_b16 := g_b16_
            have g_b2 : M5 b2 = some (mI E 12 (upd T j (nI w))) := by rw [eM5]; exact mUp_self _ _ _
            have hk : kept (nol y b1 b2 b3 b4 b5 b6 b7 b8 b9 b10 b11 b12 b13 b14 b15 b16) M M5 := (by rw [eM5]; exact hk.up (nol_in 2 rfl))
            refine lv_iconst (v := 1) hx hb dX10_table_69 (by decide) ?_
            exact m_iret hx hb hr hlocks hM hS (Nat.le_refl _) (Nat.le_refl _) dX10_table_70 (by refine ⟨(by show _ = (if vT nn i b then _ else _); rw [if_pos hv9]), ?_, hk⟩; show mR E _ y b1 b2 b3 b4 b5 b6 b7 b8 b9 b10 b11 b12 b13 b14 b15 b16 (if vT nn i b then _ else _); rw [if_pos hv9, if_pos hvb, hjbc, hbk, hjc]; show mR E _ y b1 b2 b3 b4 b5 b6 b7 b8 b9 b10 b11 b12 b13 b14 b15 b16 (if o = 0 then _ else (nn, insT ins j (some w), nf, fn, bk, rw, bd, st, c2, c3, c4)); rw [if_neg c_54]; exact ⟨_, _, _, _, _, _, _, _, _, _, _, _, _, _, _, _, _, ⟨g_y, g_b1, g_b2, g_b3, g_b4, g_b5, g_b6, g_b7, g_b8, g_b9, g_b10, g_b11, g_b12, g_b13, g_b14, g_b15, g_b16⟩, hB, (by rw [tbs_T]; exact hT.up rfl), (hR.mono (fun r hr => (live_T r hr).elim (live_T0 r) (fun q => q ▸ hlv))), (hN.same (by omega) ⟨rfl, rfl, rfl, rfl, rfl, rfl⟩), hF, hc2, hc3, hc4⟩)
      · skip
        have hvb : ¬ vB b := fun q => q.1 (Int32.not_le.mp c_21)
        refine lv_iconst (v := -1) hx hb dX10_table_24 (by decide) ?_
        refine lv_goto (tgt := 34) hx hb dX10_table_25 (by decide) ?_
        refine lv_istore (lv' := [(4, .int (-1)), (0, .ref y), (1, .int i), (2, .int b), (3, .int o)]) hx hb dX10_table_34 hl (by decide) rfl (fun ls hl => ?_)
        refine lv_aload_n hx hb dX10_table_36 rfl (lv_at hl 1 rfl) ?_
        refine m_get (ci := 8) (v := .ref b2) (C := RX10) (T := TX10) (N := 21) hx hb hts in_X10_table_X10 hown hE hM g_y rfl 1 (by decide) (hts (.fieldLink RX10 13 "CallWays2Model" "tables" "[I") (by decide +kernel)) (fun _ h9 => h9) rfl dX10_table_37 ?_
        refine lv_iload_n hx hb dX10_table_40 rfl (lv_at hl 2 rfl) ?_
        refine lv_iconst (v := -1) hx hb dX10_table_41 (by decide) ?_
        refine m_iast hx hb hE hM hS g_b2 hiin dX10_table_42 (fun H locs hM hS => ?_)
        rw [show upd T i.toNatClampNeg (-1) = upd T j (-1) from by rw [hjc]] at hM
        have hM : mOK E.1 (mA M sz) (mUp M b2 (mI E 12 (upd T j (-1)))) H := hM
        obtain ⟨M6, eM6⟩ : ∃ z, z = mUp M b2 (mI E 12 (upd T j (-1))) := ⟨_, rfl⟩
        rw [← eM6] at hM
        have g_y_ : M6 y = some (mO 8 [.ref b1, .ref b2, .ref b3, .ref b4, .ref b5, .int (nI nn), .ref b6, .ref b7, .ref b8, .ref b9, .ref b10, .ref b11, .int (nI nf), .ref b12, .ref b13, .int bd, .int st, .int fa, .ref b14, .ref b15, .ref b16]) := by rw [eM6]; exact mUp_at (nd_ne hnd 0 2 rfl rfl (by decide)) g_y
        have g_b1_ : M6 b1 = some (mI E 10 B) := by rw [eM6]; exact mUp_at (nd_ne hnd 1 2 rfl rfl (by decide)) g_b1
        have g_b3_ : M6 b3 = some (mI E 24 LN) := by rw [eM6]; exact mUp_at (nd_ne hnd 3 2 rfl rfl (by decide)) g_b3
        have g_b4_ : M6 b4 = some (mI E 24 SZ) := by rw [eM6]; exact mUp_at (nd_ne hnd 4 2 rfl rfl (by decide)) g_b4
        have g_b5_ : M6 b5 = some (mJ E 960 SM) := by rw [eM6]; exact mUp_at (nd_ne hnd 5 2 rfl rfl (by decide)) g_b5
        have g_b6_ : M6 b6 = some (mI E 12 SO) := by rw [eM6]; exact mUp_at (nd_ne hnd 6 2 rfl rfl (by decide)) g_b6
        have g_b7_ : M6 b7 = some (mI E 48 KN) := by rw [eM6]; exact mUp_at (nd_ne hnd 7 2 rfl rfl (by decide)) g_b7
        have g_b8_ : M6 b8 = some (mI E 12 PI) := by rw [eM6]; exact mUp_at (nd_ne hnd 8 2 rfl rfl (by decide)) g_b8
        have g_b9_ : M6 b9 = some (mZ E 12 ON) := by rw [eM6]; exact mUp_at (nd_ne hnd 9 2 rfl rfl (by decide)) g_b9
        have g_b10_ : M6 b10 = some (mI E 12 PH) := by rw [eM6]; exact mUp_at (nd_ne hnd 10 2 rfl rfl (by decide)) g_b10
        have g_b11_ : M6 b11 = some (mDb E 12 LE) := by rw [eM6]; exact mUp_at (nd_ne hnd 11 2 rfl rfl (by decide)) g_b11
        have g_b12_ : M6 b12 = some (mI E 8 KD) := by rw [eM6]; exact mUp_at (nd_ne hnd 12 2 rfl rfl (by decide)) g_b12
        have g_b13_ : M6 b13 = some (mI E 8 NM) := by rw [eM6]; exact mUp_at (nd_ne hnd 13 2 rfl rfl (by decide)) g_b13
        have g_b14_ : M6 b14 = some (mI E 3 CT) := by rw [eM6]; exact mUp_at (nd_ne hnd 14 2 rfl rfl (by decide)) g_b14
        have g_b15_ : M6 b15 = some (mDb E 40 CM) := by rw [eM6]; exact mUp_at (nd_ne hnd 15 2 rfl rfl (by decide)) g_b15
        have g_b16_ : M6 b16 = some (mJ E 40 MV) := by rw [eM6]; exact mUp_at (nd_ne hnd 16 2 rfl rfl (by decide)) g_b16
        have g_y := g_y_
        have g_b1 := g_b1_
        have g_b3 := g_b3_
        have g_b4 := g_b4_
        have g_b5 := g_b5_
        have g_b6 := g_b6_
        have g_b7 := g_b7_
        have g_b8 := g_b8_
        have g_b9 := g_b9_
        have g_b10 := g_b10_
        have g_b11 := g_b11_
        have g_b12 := g_b12_
        have g_b13 := g_b13_
        have g_b14 := g_b14_
        have g_b15 := g_b15_
        have g_b16 := g_b16_
        have g_b2 : M6 b2 = some (mI E 12 (upd T j (-1))) := by rw [eM6]; exact mUp_self _ _ _
        have hk : kept (nol y b1 b2 b3 b4 b5 b6 b7 b8 b9 b10 b11 b12 b13 b14 b15 b16) M M6 := (by rw [eM6]; exact hk.up (nol_in 2 rfl))
        refine lv_aload_n hx hb dX10_table_43 rfl (lv_at hl 1 rfl) ?_
        refine m_get (ci := 8) (v := .ref b2) (C := RX10) (T := TX10) (N := 21) hx hb hts in_X10_table_X10 hown hE hM g_y rfl 1 (by decide) (hts (.fieldLink RX10 13 "CallWays2Model" "tables" "[I") (by decide +kernel)) (fun _ h9 => h9) rfl dX10_table_44 ?_
        refine lv_iload_n hx hb dX10_table_47 rfl (lv_at hl 2 rfl) ?_
        refine lv_iload hx hb dX10_table_48 (lv_at hl 0 rfl) ?_
        refine lv_if_lt (tgt := 57) hx hb dX10_table_50 (by decide) (fun _ => ?_) (fun h9 => absurd (by decide) h9)
        refine lv_iload hx hb dX10_table_57 (lv_at hl 0 rfl) ?_
        refine lv_goto (tgt := 68) hx hb dX10_table_59 (by decide) ?_
        refine m_iast hx hb hE hM hS g_b2 hiin dX10_table_68 (fun H locs hM hS => ?_)
        rw [show upd (upd T j (-1)) i.toNatClampNeg (-1) = upd T j (-1) from by rw [hjc, upd_up]] at hM
        have hM : mOK E.1 (mA M sz) (mUp M6 b2 (mI E 12 (upd T j (-1)))) H := hM
        obtain ⟨M7, eM7⟩ : ∃ z, z = mUp M6 b2 (mI E 12 (upd T j (-1))) := ⟨_, rfl⟩
        rw [← eM7] at hM
        have g_y_ : M7 y = some (mO 8 [.ref b1, .ref b2, .ref b3, .ref b4, .ref b5, .int (nI nn), .ref b6, .ref b7, .ref b8, .ref b9, .ref b10, .ref b11, .int (nI nf), .ref b12, .ref b13, .int bd, .int st, .int fa, .ref b14, .ref b15, .ref b16]) := by rw [eM7]; exact mUp_at (nd_ne hnd 0 2 rfl rfl (by decide)) g_y
        have g_b1_ : M7 b1 = some (mI E 10 B) := by rw [eM7]; exact mUp_at (nd_ne hnd 1 2 rfl rfl (by decide)) g_b1
        have g_b3_ : M7 b3 = some (mI E 24 LN) := by rw [eM7]; exact mUp_at (nd_ne hnd 3 2 rfl rfl (by decide)) g_b3
        have g_b4_ : M7 b4 = some (mI E 24 SZ) := by rw [eM7]; exact mUp_at (nd_ne hnd 4 2 rfl rfl (by decide)) g_b4
        have g_b5_ : M7 b5 = some (mJ E 960 SM) := by rw [eM7]; exact mUp_at (nd_ne hnd 5 2 rfl rfl (by decide)) g_b5
        have g_b6_ : M7 b6 = some (mI E 12 SO) := by rw [eM7]; exact mUp_at (nd_ne hnd 6 2 rfl rfl (by decide)) g_b6
        have g_b7_ : M7 b7 = some (mI E 48 KN) := by rw [eM7]; exact mUp_at (nd_ne hnd 7 2 rfl rfl (by decide)) g_b7
        have g_b8_ : M7 b8 = some (mI E 12 PI) := by rw [eM7]; exact mUp_at (nd_ne hnd 8 2 rfl rfl (by decide)) g_b8
        have g_b9_ : M7 b9 = some (mZ E 12 ON) := by rw [eM7]; exact mUp_at (nd_ne hnd 9 2 rfl rfl (by decide)) g_b9
        have g_b10_ : M7 b10 = some (mI E 12 PH) := by rw [eM7]; exact mUp_at (nd_ne hnd 10 2 rfl rfl (by decide)) g_b10
        have g_b11_ : M7 b11 = some (mDb E 12 LE) := by rw [eM7]; exact mUp_at (nd_ne hnd 11 2 rfl rfl (by decide)) g_b11
        have g_b12_ : M7 b12 = some (mI E 8 KD) := by rw [eM7]; exact mUp_at (nd_ne hnd 12 2 rfl rfl (by decide)) g_b12
        have g_b13_ : M7 b13 = some (mI E 8 NM) := by rw [eM7]; exact mUp_at (nd_ne hnd 13 2 rfl rfl (by decide)) g_b13
        have g_b14_ : M7 b14 = some (mI E 3 CT) := by rw [eM7]; exact mUp_at (nd_ne hnd 14 2 rfl rfl (by decide)) g_b14
        have g_b15_ : M7 b15 = some (mDb E 40 CM) := by rw [eM7]; exact mUp_at (nd_ne hnd 15 2 rfl rfl (by decide)) g_b15
        have g_b16_ : M7 b16 = some (mJ E 40 MV) := by rw [eM7]; exact mUp_at (nd_ne hnd 16 2 rfl rfl (by decide)) g_b16
        have g_y := g_y_
        have g_b1 := g_b1_
        have g_b3 := g_b3_
        have g_b4 := g_b4_
        have g_b5 := g_b5_
        have g_b6 := g_b6_
        have g_b7 := g_b7_
        have g_b8 := g_b8_
        have g_b9 := g_b9_
        have g_b10 := g_b10_
        have g_b11 := g_b11_
        have g_b12 := g_b12_
        have g_b13 := g_b13_
        have g_b14 := g_b14_
        have g_b15 := g_b15_
        have g_b16 := g_b16_
        have g_b2 : M7 b2 = some (mI E 12 (upd T j (-1))) := by rw [eM7]; exact mUp_self _ _ _
        have hk : kept (nol y b1 b2 b3 b4 b5 b6 b7 b8 b9 b10 b11 b12 b13 b14 b15 b16) M M7 := (by rw [eM7]; exact hk.up (nol_in 2 rfl))
        refine lv_iconst (v := 1) hx hb dX10_table_69 (by decide) ?_
        exact m_iret hx hb hr hlocks hM hS (Nat.le_refl _) (Nat.le_refl _) dX10_table_70 (by refine ⟨(by show _ = (if vT nn i b then _ else _); rw [if_pos hv9]), ?_, hk⟩; show mR E _ y b1 b2 b3 b4 b5 b6 b7 b8 b9 b10 b11 b12 b13 b14 b15 b16 (if vT nn i b then _ else _); rw [if_pos hv9, if_neg hvb, hjc];  exact ⟨_, _, _, _, _, _, _, _, _, _, _, _, _, _, _, _, _, ⟨g_y, g_b1, g_b2, g_b3, g_b4, g_b5, g_b6, g_b7, g_b8, g_b9, g_b10, g_b11, g_b12, g_b13, g_b14, g_b15, g_b16⟩, hB, (by rw [tbs_T]; exact hT.up rfl), (hR.mono live_T0), (hN.same (by omega) ⟨rfl, rfl, rfl, rfl, rfl, rfl⟩), hF, hc2, hc3, hc4⟩)
    · skip
      rw [bI_eq] at c_15
      have hz : ¬ (vT nn i b) := na2 c_15
      refine lv_iconst (v := -1) hx hb dX10_table_18 (by decide) ?_
      exact m_iret hx hb hr hlocks hM hS (Nat.le_refl _) (Nat.le_refl _) dX10_table_19 (by refine ⟨(if_neg hz).symm, ?_, hk⟩; show mR E _ y b1 b2 b3 b4 b5 b6 b7 b8 b9 b10 b11 b12 b13 b14 b15 b16 (if vT nn i b then _ else _); rw [if_neg hz]; exact hC0)
