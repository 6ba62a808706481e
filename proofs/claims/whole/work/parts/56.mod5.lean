theorem in_24 {w : Int32} : (¬ w < 2 ∧ ¬ 4 < w) ↔ (w = 2 ∨ w = 3 ∨ w = 4) := by
  constructor
  · rintro ⟨h1, h2⟩
    obtain ⟨j, hj, rfl⟩ := nI_of (x := w) (fun q => h1 (Int32.lt_trans q (by decide)))
    rw [show (2 : Int32) = nI 2 from rfl, nI_ltI hj (by decide)] at h1
    rw [show (4 : Int32) = nI 4 from rfl, nI_ltI (by decide) hj] at h2
    rcases (show j = 2 ∨ j = 3 ∨ j = 4 by omega) with rfl | rfl | rfl
    · exact Or.inl rfl
    · exact Or.inr (Or.inl rfl)
    · exact Or.inr (Or.inr rfl)
  · rintro (rfl | rfl | rfl) <;> decide
theorem w24 {w : Int32} (h : w = 2 ∨ w = 3 ∨ w = 4) : ∃ j, j < 3 ∧ w - 2 = nI j := by
  rcases h with rfl | rfl | rfl
  · exact ⟨0, by decide, rfl⟩
  · exact ⟨1, by decide, rfl⟩
  · exact ⟨2, by decide, rfl⟩
theorem cnt_ok {nn nf : Nat} {w c2 c3 c4 : Int32} {j : Nat} {CT : Nat → Int32} (hw : w - 2 = nI j) (hj : j < 3) (h : w = 2 ∨ w = 3 ∨ w = 4) (h2 : CT 0 = c2) (h3 : CT 1 = c3) (h4 : CT 2 = c4) : CT j = (if w = 0 then nI nn else if w = 1 then nI nf else if w = 2 then c2 else if w = 3 then c3 else if w = 4 then c4 else -1) := by
  have hc : j = (w - 2).toNatClampNeg := by rw [hw, nI_clamp (by omega)]
  rcases h with rfl | rfl | rfl
  · rw [hc]; exact h2
  · rw [hc]; exact h3
  · rw [hc]; exact h4
theorem n12 {nn : Nat} (h : nn ≤ 12) (h1 : ¬ nI nn = 12) : nn < 12 := by
  by_cases h2 : nn = 12
  · subst h2; exact absurd rfl h1
  · omega
theorem n8 {nn : Nat} (h : nn ≤ 8) (h1 : ¬ nI nn = 8) : nn < 8 := by
  by_cases h2 : nn = 8
  · subst h2; exact absurd rfl h1
  · omega
theorem nI12 {nn : Nat} (h : nn < 12) : ¬ nI nn = 12 := fun q => by
  have := congrArg Int32.toNatClampNeg q
  rw [nI_clamp (by omega)] at this
  have h2 : (12 : Int32).toNatClampNeg = 12 := rfl
  omega
theorem nI8 {nn : Nat} (h : nn < 8) : ¬ nI nn = 8 := fun q => by
  have := congrArg Int32.toNatClampNeg q
  rw [nI_clamp (by omega)] at this
  have h2 : (8 : Int32).toNatClampNeg = 8 := rfl
  omega
theorem nI_p1m1 (n : Nat) : nI n + 1 - 1 = nI n := Int32.add_sub_cancel _ _
theorem inst_tb {nn : Nat} {ins : Nat → sIn} {c : Nat} (h : ∀ i, nn ≤ i → (ins i).2 = ((fun _ => 0), 0, 0, 0, 0, none)) : tbs (va_up ins nn (c, (fun _ => 0), 0, 0, 0, 0, none)) = tbs ins := tbs_same (by show none = (ins nn).2.2.2.2.2.2; rw [h nn (Nat.le_refl nn)])
theorem inst_lv {nn : Nat} {ins : Nat → sIn} {bk : Nat → Option Nat} {c : Nat} (h : ∀ i, nn ≤ i → (ins i).2 = ((fun _ => 0), 0, 0, 0, 0, none)) : ∀ r, live (nn + 1) (va_up ins nn (c, (fun _ => 0), 0, 0, 0, 0, none)) bk r → live nn ins bk r := by
  rintro r (h1 | ⟨i, hi, he⟩)
  · exact Or.inl h1
  · by_cases hin : i = nn
    · subst hin
      rw [va_up_self] at he
      cases he
    · rw [va_up_ne _ _ hin] at he
      exact Or.inr ⟨i, by omega, he⟩
theorem inst_N {nn : Nat} {ins : Nat → sIn} {SO KN PI ON PH : Nat → Int32} {LE : Nat → UInt64} {s0 : Int32} (hlt : nn < 12) (h : ∀ i, nn ≤ i → (ins i).2 = ((fun _ => 0), 0, 0, 0, 0, none)) (hN : rlN nn ins SO KN PI ON PH LE) (hs : vS s0) : rlN (nn + 1) (va_up ins nn (sci s0, (fun _ => 0), 0, 0, 0, 0, none)) (upd SO nn s0) KN PI ON PH LE := by
  have h1 := h nn (Nat.le_refl nn)
  have h2 := hN nn hlt (ins nn).1 (fun _ => 0) 0 0 0 0 none (Prod.ext rfl h1)
  refine hN.up (fun i hi hin => ⟨upd_o hin, fun _ _ => rfl, rfl, rfl, rfl, rfl⟩) (fun i hin => ⟨fun q => by omega, fun q => by omega⟩) ⟨fun _ => ?_, h2.2.1, h2.2.2.1, h2.2.2.2.1, h2.2.2.2.2.1, fun _ => h2.2.2.2.2.2 (Or.inl (Nat.le_refl nn))⟩
  rw [upd_s]
  exact (sso_sci hs).symm
theorem func_F {nf : Nat} {fn : Nat → Int32 × Int32} {KD NM : Nat → Int32} {s0 a0 : Int32} (h : rlF nf fn KD NM) : rlF (nf + 1) (va_up fn nf (s0, a0)) (upd KD nf s0) (upd NM nf a0) := by
  intro i hi
  by_cases hin : i = nf
  · subst hin
    rw [va_up_self, upd_s, upd_s]
    exact ⟨rfl, rfl⟩
  · rw [va_up_ne _ _ hin, upd_o hin, upd_o hin]
    exact h i (by omega)
theorem in_X10_state_X10 : ∀ w ∈ wsX100, w ∈ wsX10_state := by decide +kernel
set_option maxHeartbeats 4000000 in
set_option maxRecDepth 100000 in
theorem c_X10_state (l : Launch) (E : mEnv) (M : mMem) (sz : Nat) (y b1 b2 b3 b4 b5 b6 b7 b8 b9 b10 b11 b12 b13 b14 b15 b16 nn nf : Nat) (ins : Nat → sIn) (fn : Nat → Int32 × Int32) (bk : Nat → Option Nat) (rw : Nat → sRw) (bd st c2 c3 c4 : Int32) (hV : Inv (nn, ins, nf, fn, bk, rw, bd, st, c2, c3, c4)) (hC : mR E M y b1 b2 b3 b4 b5 b6 b7 b8 b9 b10 b11 b12 b13 b14 b15 b16 (nn, ins, nf, fn, bk, rw, bd, st, c2, c3, c4)) (hnd : [y, b1, b2, b3, b4, b5, b6, b7, b8, b9, b10, b11, b12, b13, b14, b15, b16].Nodup)    : Met l yX10_state wsX10_state ({ frames := 0, cells := 0, slots := 0, locals := 0 }) (mPre E M sz [.ref y]) (mQi E M sz (fun r u => r = aState (nn, ins, nf, fn, bk, rw, bd, st, c2, c3, c4) ∧ mR E u y b1 b2 b3 b4 b5 b6 b7 b8 b9 b10 b11 b12 b13 b14 b15 b16 ((nn, ins, nf, fn, bk, rw, bd, st, c2, c3, c4)) ∧ kept (nol y b1 b2 b3 b4 b5 b6 b7 b8 b9 b10 b11 b12 b13 b14 b15 b16) M u)) (0) (0) (mA M sz) := by
  refine m_met [.ref y] (by decide) rfl (Nat.le_of_ble_eq_true rfl) ?_
  intro p e s m below meth c ls H eH hx hb hr hts hown hlocks hnm hml hsz hE hM hS hA hl
  have hl : lv_has ls 1 [(0, .ref y)] := hl
  have hC0 := hC
  obtain ⟨fa, B, T, LN, SZ, SM, SO, KN, PI, ON, PH, LE, KD, NM, CT, CM, MV, ⟨g_y, g_b1, g_b2, g_b3, g_b4, g_b5, g_b6, g_b7, g_b8, g_b9, g_b10, g_b11, g_b12, g_b13, g_b14, g_b15, g_b16⟩, hB, hT, hR, hN, hF, hc2, hc3, hc4⟩ := hC
  have hiK := hV.insK
  have h24t := hV.tb24
  have h40 := hV.n40
  obtain ⟨hnn, hnf, hvI, hvD, hv24, hvR, hvF⟩ := id hV
  have h24 : ∀ k, k < 10 → ∀ r, bk k = some r → r < 24 := fun k hk r hr => hv24 r (Or.inl ⟨k, hk, hr⟩)
  have hk : kept (nol y b1 b2 b3 b4 b5 b6 b7 b8 b9 b10 b11 b12 b13 b14 b15 b16) M M := kept.rf
  refine lv_aload_n hx hb dX10_state_0 rfl (lv_at hl 0 rfl) ?_
  refine m_get (ci := 8) (v := .int st) (C := RX10) (T := TX10) (N := 21) hx hb hts in_X10_state_X10 hown hE hM g_y rfl 16 (by decide) (hts (.fieldLink RX10 72 "CallWays2Model" "stateNow" "I") (by decide +kernel)) (fun _ h9 => h9) rfl dX10_state_1 ?_
  exact m_iret hx hb hr hlocks hM hS (Nat.le_refl _) (Nat.le_refl _) dX10_state_4 (by exact ⟨rfl, hC0, hk⟩)
theorem in_X10_count_X10 : ∀ w ∈ wsX100, w ∈ wsX10_count := by decide +kernel
set_option maxHeartbeats 4000000 in
set_option maxRecDepth 100000 in
theorem c_X10_count (l : Launch) (E : mEnv) (M : mMem) (sz : Nat) (y b1 b2 b3 b4 b5 b6 b7 b8 b9 b10 b11 b12 b13 b14 b15 b16 nn nf : Nat) (ins : Nat → sIn) (fn : Nat → Int32 × Int32) (bk : Nat → Option Nat) (rw : Nat → sRw) (bd st c2 c3 c4 : Int32) (hV : Inv (nn, ins, nf, fn, bk, rw, bd, st, c2, c3, c4)) (hC : mR E M y b1 b2 b3 b4 b5 b6 b7 b8 b9 b10 b11 b12 b13 b14 b15 b16 (nn, ins, nf, fn, bk, rw, bd, st, c2, c3, c4)) (hnd : [y, b1, b2, b3, b4, b5, b6, b7, b8, b9, b10, b11, b12, b13, b14, b15, b16].Nodup) (w : Int32)    : Met l yX10_count wsX10_count ({ frames := 1, cells := 0, slots := 0, locals := 22 }) (mPre E M sz [.ref y, .int w]) (mQi E M sz (fun r u => r = aCount (nn, ins, nf, fn, bk, rw, bd, st, c2, c3, c4) w ∧ mR E u y b1 b2 b3 b4 b5 b6 b7 b8 b9 b10 b11 b12 b13 b14 b15 b16 ((nn, ins, nf, fn, bk, rw, bd, st, c2, c3, c4)) ∧ kept (nol y b1 b2 b3 b4 b5 b6 b7 b8 b9 b10 b11 b12 b13 b14 b15 b16) M u)) (0) (0) (mA M sz) := by
  refine m_met [.ref y, .int w] (by decide) rfl (Nat.le_of_ble_eq_true rfl) ?_
  intro p e s m below meth c ls H eH hx hb hr hts hown hlocks hnm hml hsz hE hM hS hA hl
  have hl : lv_has ls 2 [(0, .ref y), (1, .int w)] := hl
  have hC0 := hC
  obtain ⟨fa, B, T, LN, SZ, SM, SO, KN, PI, ON, PH, LE, KD, NM, CT, CM, MV, ⟨g_y, g_b1, g_b2, g_b3, g_b4, g_b5, g_b6, g_b7, g_b8, g_b9, g_b10, g_b11, g_b12, g_b13, g_b14, g_b15, g_b16⟩, hB, hT, hR, hN, hF, hc2, hc3, hc4⟩ := hC
  have hiK := hV.insK
  have h24t := hV.tb24
  have h40 := hV.n40
  obtain ⟨hnn, hnf, hvI, hvD, hv24, hvR, hvF⟩ := id hV
  have h24 : ∀ k, k < 10 → ∀ r, bk k = some r → r < 24 := fun k hk r hr => hv24 r (Or.inl ⟨k, hk, hr⟩)
  have hk : kept (nol y b1 b2 b3 b4 b5 b6 b7 b8 b9 b10 b11 b12 b13 b14 b15 b16) M M := kept.rf
  refine lv_iload_n hx hb dX10_count_0 rfl (lv_at hl 1 rfl) ?_
  refine lv_if_ne (tgt := 11) hx hb dX10_count_1 (by decide) (fun c_1 => ?_) (fun c_1 => ?_)
  · skip
    refine lv_iload_n hx hb dX10_count_11 rfl (lv_at hl 1 rfl) ?_
    refine lv_iconst (v := 1) hx hb dX10_count_12 (by decide) ?_
    refine lv_icmp_ne (tgt := 23) hx hb dX10_count_13 (by decide) (fun c_13 => ?_) (fun c_13 => ?_)
    · skip
      refine lv_iload_n hx hb dX10_count_23 rfl (lv_at hl 1 rfl) ?_
      refine lv_iconst (v := 2) hx hb dX10_count_24 (by decide) ?_
      refine lv_iconst (v := 4) hx hb dX10_count_25 (by decide) ?_
      refine m_calli (va_runS (As := [.int w, .int 2, .int 4]) (rest := []) ⟨hx, hb, hml, hown, hts⟩ (c_X10_in l E M H.size w 2 4) (va_cwS 3 hts gX10_count_X10_in rfl rfl rfl (by decide +kernel) ⟨Nat.le_of_ble_eq_true rfl, Nat.le_of_ble_eq_true rfl⟩) (m_preS hE hM) rfl rfl hl.1 rfl (lv_room (Nat.le_of_ble_eq_true rfl)) dX10_count_26 ⟨Nat.le_of_ble_eq_true rfl, Nat.le_of_ble_eq_true rfl⟩) hM hS hA (fun r0 u H locs hw hM hS => ?_)
      obtain ⟨e_r0, eu⟩ := hw
      rw [eu] at hM
      rw [bI_congr (in_24)] at e_r0
      subst e_r0
      refine lv_if_eq (tgt := 43) hx hb dX10_count_29 (by decide) (fun c_29 => ?_) (fun c_29 => ?_)
      · skip
        rw [bI_eq] at c_29
        refine lv_iconst (v := -1) hx hb dX10_count_43 (by decide) ?_
        exact m_iret hx hb hr hlocks hM hS (Nat.le_refl _) (Nat.le_refl _) dX10_count_44 (by refine ⟨?_, hC0, hk⟩; show _ = (if w = 0 then _ else _); rw [if_neg c_1, if_neg c_13, if_neg (fun q => c_29 (Or.inl q)), if_neg (fun q => c_29 (Or.inr (Or.inl q))), if_neg (fun q => c_29 (Or.inr (Or.inr q)))])
      · skip
        rw [bI_ne] at c_29
        refine lv_aload_n hx hb dX10_count_32 rfl (lv_at hl 0 rfl) ?_
        refine m_get (ci := 8) (v := .ref b14) (C := RX10) (T := TX10) (N := 21) hx hb hts in_X10_count_X10 hown hE hM g_y rfl 18 (by decide) (hts (.fieldLink RX10 52 "CallWays2Model" "counts" "[I") (by decide +kernel)) (fun _ h9 => h9) rfl dX10_count_33 ?_
        refine lv_iload_n hx hb dX10_count_36 rfl (lv_at hl 1 rfl) ?_
        refine lv_iconst (v := 2) hx hb dX10_count_37 (by decide) ?_
        refine lv_isub hx hb dX10_count_38 ?_
        obtain ⟨j9, hj9, hw9⟩ := w24 c_29
        rw [hw9]
        refine m_iald hx hb hE hM g_b14 (vp_in_nI hj9 (by decide)) dX10_count_39 ?_
        rw [show CT (nI j9).toNatClampNeg = CT j9 from by rw [nI_clamp (by omega)]]
        refine lv_goto (tgt := 44) hx hb dX10_count_40 (by decide) ?_
        exact m_iret hx hb hr hlocks hM hS (Nat.le_refl _) (Nat.le_refl _) dX10_count_44 (by refine ⟨?_, hC0, hk⟩; exact cnt_ok hw9 hj9 c_29 hc2 hc3 hc4)
    · skip
      refine lv_aload_n hx hb dX10_count_16 rfl (lv_at hl 0 rfl) ?_
      refine m_get (ci := 8) (v := .int (nI nf)) (C := RX10) (T := TX10) (N := 21) hx hb hts in_X10_count_X10 hown hE hM g_y rfl 12 (by decide) (hts (.fieldLink RX10 109 "CallWays2Model" "functions" "I") (by decide +kernel)) (fun _ h9 => h9) rfl dX10_count_17 ?_
      refine lv_goto (tgt := 44) hx hb dX10_count_20 (by decide) ?_
      exact m_iret hx hb hr hlocks hM hS (Nat.le_refl _) (Nat.le_refl _) dX10_count_44 (by refine ⟨?_, hC0, hk⟩; show _ = (if w = 0 then _ else _); rw [if_neg c_1, if_pos c_13])
  · skip
    refine lv_aload_n hx hb dX10_count_4 rfl (lv_at hl 0 rfl) ?_
    refine m_get (ci := 8) (v := .int (nI nn)) (C := RX10) (T := TX10) (N := 21) hx hb hts in_X10_count_X10 hown hE hM g_y rfl 5 (by decide) (hts (.fieldLink RX10 65 "CallWays2Model" "instruments" "I") (by decide +kernel)) (fun _ h9 => h9) rfl dX10_count_5 ?_
    refine lv_goto (tgt := 44) hx hb dX10_count_8 (by decide) ?_
    exact m_iret hx hb hr hlocks hM hS (Nat.le_refl _) (Nat.le_refl _) dX10_count_44 (by refine ⟨?_, hC0, hk⟩; show _ = (if w = 0 then _ else _); rw [if_pos c_1])
theorem in_X10_bind_X10 : ∀ w ∈ wsX100, w ∈ wsX10_bind := by decide +kernel
set_option maxHeartbeats 4000000 in
set_option maxRecDepth 100000 in
theorem c_X10_bind (l : Launch) (E : mEnv) (M : mMem) (sz : Nat) (y b1 b2 b3 b4 b5 b6 b7 b8 b9 b10 b11 b12 b13 b14 b15 b16 nn nf : Nat) (ins : Nat → sIn) (fn : Nat → Int32 × Int32) (bk : Nat → Option Nat) (rw : Nat → sRw) (bd st c2 c3 c4 : Int32) (hV : Inv (nn, ins, nf, fn, bk, rw, bd, st, c2, c3, c4)) (hC : mR E M y b1 b2 b3 b4 b5 b6 b7 b8 b9 b10 b11 b12 b13 b14 b15 b16 (nn, ins, nf, fn, bk, rw, bd, st, c2, c3, c4)) (hnd : [y, b1, b2, b3, b4, b5, b6, b7, b8, b9, b10, b11, b12, b13, b14, b15, b16].Nodup) (w : Int32)    : Met l yX10_bind wsX10_bind ({ frames := 1, cells := 0, slots := 0, locals := 22 }) (mPre E M sz [.ref y, .int w]) (mQi E M sz (fun r u => r = aBind (nn, ins, nf, fn, bk, rw, bd, st, c2, c3, c4) w ∧ mR E u y b1 b2 b3 b4 b5 b6 b7 b8 b9 b10 b11 b12 b13 b14 b15 b16 (nBind (nn, ins, nf, fn, bk, rw, bd, st, c2, c3, c4) w) ∧ kept (nol y b1 b2 b3 b4 b5 b6 b7 b8 b9 b10 b11 b12 b13 b14 b15 b16) M u)) (0) (0) (mA M sz) := by
  refine m_met [.ref y, .int w] (by decide) rfl (Nat.le_of_ble_eq_true rfl) ?_
  intro p e s m below meth c ls H eH hx hb hr hts hown hlocks hnm hml hsz hE hM hS hA hl
  have hl : lv_has ls 3 [(0, .ref y), (1, .int w)] := hl
  have hC0 := hC
  obtain ⟨fa, B, T, LN, SZ, SM, SO, KN, PI, ON, PH, LE, KD, NM, CT, CM, MV, ⟨g_y, g_b1, g_b2, g_b3, g_b4, g_b5, g_b6, g_b7, g_b8, g_b9, g_b10, g_b11, g_b12, g_b13, g_b14, g_b15, g_b16⟩, hB, hT, hR, hN, hF, hc2, hc3, hc4⟩ := hC
  have hiK := hV.insK
  have h24t := hV.tb24
  have h40 := hV.n40
  obtain ⟨hnn, hnf, hvI, hvD, hv24, hvR, hvF⟩ := id hV
  have h24 : ∀ k, k < 10 → ∀ r, bk k = some r → r < 24 := fun k hk r hr => hv24 r (Or.inl ⟨k, hk, hr⟩)
  have hk : kept (nol y b1 b2 b3 b4 b5 b6 b7 b8 b9 b10 b11 b12 b13 b14 b15 b16) M M := kept.rf
  refine lv_iload_n hx hb dX10_bind_0 rfl (lv_at hl 1 rfl) ?_
  refine lv_iconst (v := 0) hx hb dX10_bind_1 (by decide) ?_
  refine lv_iconst (v := 3) hx hb dX10_bind_2 (by decide) ?_
  refine m_calli (va_runS (As := [.int w, .int 0, .int 3]) (rest := []) ⟨hx, hb, hml, hown, hts⟩ (c_X10_in l E M H.size w 0 3) (va_cwS 3 hts gX10_bind_X10_in rfl rfl rfl (by decide +kernel) ⟨Nat.le_of_ble_eq_true rfl, Nat.le_of_ble_eq_true rfl⟩) (m_preS hE hM) rfl rfl hl.1 rfl (lv_room (Nat.le_of_ble_eq_true rfl)) dX10_bind_3 ⟨Nat.le_of_ble_eq_true rfl, Nat.le_of_ble_eq_true rfl⟩) hM hS hA (fun r0 u H locs hw hM hS => ?_)
  obtain ⟨e_r0, eu⟩ := hw
  rw [eu] at hM
  rw [bI_congr (Iff.rfl)] at e_r0
  subst e_r0
  refine lv_if_ne (tgt := 12) hx hb dX10_bind_6 (by decide) (fun c_6 => ?_) (fun c_6 => ?_)
  · skip
    rw [bI_ne] at c_6
    refine lv_aload_n hx hb dX10_bind_12 rfl (lv_at hl 0 rfl) ?_
    refine m_get (ci := 8) (v := .int bd) (C := RX10) (T := TX10) (N := 21) hx hb hts in_X10_bind_X10 hown hE hM g_y rfl 15 (by decide) (hts (.fieldLink RX10 61 "CallWays2Model" "bound" "I") (by decide +kernel)) (fun _ h9 => h9) rfl dX10_bind_13 ?_
    refine lv_istore_n (lv' := [(2, .int bd), (0, .ref y), (1, .int w)]) hx hb dX10_bind_16 rfl hl (by decide) rfl (fun ls hl => ?_)
    refine lv_aload_n hx hb dX10_bind_17 rfl (lv_at hl 1 rfl) ?_
    refine lv_iload_n hx hb dX10_bind_18 rfl (lv_at hl 2 rfl) ?_
    refine m_put (ci := 8) (v := .int w) (ty := .int) (C := RX10) (T := TX10) (N := 21) hx hb hts in_X10_bind_X10 tyX10 tyX10_ok nmX10 hown hE hM hS g_y rfl 15 (by decide) (hts (.fieldLink RX10 61 "CallWays2Model" "bound" "I") (by decide +kernel)) (fun _ h9 => h9) rfl (by decide +kernel) rfl rfl (Nat.le_of_ble_eq_true rfl) dX10_bind_19 (fun H locs hM hS => ?_)
    have hM : mOK E.1 (mA M sz) (mUp M y (mO 8 [.ref b1, .ref b2, .ref b3, .ref b4, .ref b5, .int (nI nn), .ref b6, .ref b7, .ref b8, .ref b9, .ref b10, .ref b11, .int (nI nf), .ref b12, .ref b13, .int w, .int st, .int fa, .ref b14, .ref b15, .ref b16])) H := hM
    obtain ⟨M1, eM1⟩ : ∃ z, z = mUp M y (mO 8 [.ref b1, .ref b2, .ref b3, .ref b4, .ref b5, .int (nI nn), .ref b6, .ref b7, .ref b8, .ref b9, .ref b10, .ref b11, .int (nI nf), .ref b12, .ref b13, .int w, .int st, .int fa, .ref b14, .ref b15, .ref b16]) := ⟨_, rfl⟩
    rw [← eM1] at hM
    have g_b1_ : M1 b1 = some (mI E 10 B) := by rw [eM1]; exact mUp_at (nd_ne hnd 1 0 rfl rfl (by decide)) g_b1
    have g_b2_ : M1 b2 = some (mI E 12 T) := by rw [eM1]; exact mUp_at (nd_ne hnd 2 0 rfl rfl (by decide)) g_b2
    have g_b3_ : M1 b3 = some (mI E 24 LN) := by rw [eM1]; exact mUp_at (nd_ne hnd 3 0 rfl rfl (by decide)) g_b3
    have g_b4_ : M1 b4 = some (mI E 24 SZ) := by rw [eM1]; exact mUp_at (nd_ne hnd 4 0 rfl rfl (by decide)) g_b4
    have g_b5_ : M1 b5 = some (mJ E 960 SM) := by rw [eM1]; exact mUp_at (nd_ne hnd 5 0 rfl rfl (by decide)) g_b5
    have g_b6_ : M1 b6 = some (mI E 12 SO) := by rw [eM1]; exact mUp_at (nd_ne hnd 6 0 rfl rfl (by decide)) g_b6
    have g_b7_ : M1 b7 = some (mI E 48 KN) := by rw [eM1]; exact mUp_at (nd_ne hnd 7 0 rfl rfl (by decide)) g_b7
    have g_b8_ : M1 b8 = some (mI E 12 PI) := by rw [eM1]; exact mUp_at (nd_ne hnd 8 0 rfl rfl (by decide)) g_b8
    have g_b9_ : M1 b9 = some (mZ E 12 ON) := by rw [eM1]; exact mUp_at (nd_ne hnd 9 0 rfl rfl (by decide)) g_b9
    have g_b10_ : M1 b10 = some (mI E 12 PH) := by rw [eM1]; exact mUp_at (nd_ne hnd 10 0 rfl rfl (by decide)) g_b10
    have g_b11_ : M1 b11 = some (mDb E 12 LE) := by rw [eM1]; exact mUp_at (nd_ne hnd 11 0 rfl rfl (by decide)) g_b11
    have g_b12_ : M1 b12 = some (mI E 8 KD) := by rw [eM1]; exact mUp_at (nd_ne hnd 12 0 rfl rfl (by decide)) g_b12
    have g_b13_ : M1 b13 = some (mI E 8 NM) := by rw [eM1]; exact mUp_at (nd_ne hnd 13 0 rfl rfl (by decide)) g_b13
    have g_b14_ : M1 b14 = some (mI E 3 CT) := by rw [eM1]; exact mUp_at (nd_ne hnd 14 0 rfl rfl (by decide)) g_b14
    have g_b15_ : M1 b15 = some (mDb E 40 CM) := by rw [eM1]; exact mUp_at (nd_ne hnd 15 0 rfl rfl (by decide)) g_b15
    have g_b16_ : M1 b16 = some (mJ E 40 MV) := by rw [eM1]; exact mUp_at (nd_ne hnd 16 0 rfl rfl (by decide)) g_b16
    have g_b1 := g_b1_
    have g_b2 := g_b2_
    have g_b3 := g_b3_
    have g_b4 := g_b4_
    have g_b5 := g_b5_
    have g_b6 := g_b6_
    have g_b7 := g_b7_
    have g_b8 := g_b8_
    have g_b9 := g_b9_
    have g_b10 := g_b10_
    have g_b11 := g_b11_
    have g_b12 := g_b12_
    have g_b13 := g_b13_
    have g_b14 := g_b14_
    have g_b15 := g_b15_
    have g_b16 := g_b16_
    have g_y : M1 y = some (mO 8 [.ref b1, .ref b2, .ref b3, .ref b4, .ref b5, .int (nI nn), .ref b6, .ref b7, .ref b8, .ref b9, .ref b10, .ref b11, .int (nI nf), .ref b12, .ref b13, .int w, .int st, .int fa, .ref b14, .ref b15, .ref b16]) := by rw [eM1]; exact mUp_self _ _ _
    have hk : kept (nol y b1 b2 b3 b4 b5 b6 b7 b8 b9 b10 b11 b12 b13 b14 b15 b16) M M1 := (by rw [eM1]; exact hk.up (nol_in 0 rfl))
    refine lv_iload_n hx hb dX10_bind_22 rfl (lv_at hl 0 rfl) ?_
    exact m_iret hx hb hr hlocks hM hS (Nat.le_refl _) (Nat.le_refl _) dX10_bind_23 (by refine ⟨(if_pos c_6).symm, ?_, hk⟩; show mR E _ y b1 b2 b3 b4 b5 b6 b7 b8 b9 b10 b11 b12 b13 b14 b15 b16 (nn, ins, nf, fn, bk, rw, (if vL w then w else bd), st, c2, c3, c4); rw [if_pos c_6]; exact ⟨_, _, _, _, _, _, _, _, _, _, _, _, _, _, _, _, _, ⟨g_y, g_b1, g_b2, g_b3, g_b4, g_b5, g_b6, g_b7, g_b8, g_b9, g_b10, g_b11, g_b12, g_b13, g_b14, g_b15, g_b16⟩, hB, hT, hR, hN, hF, hc2, hc3, hc4⟩)
  · skip
    rw [bI_eq] at c_6
    refine lv_bipush (v := -2) hx hb dX10_bind_9 (by decide) ?_
    exact m_iret hx hb hr hlocks hM hS (Nat.le_refl _) (Nat.le_refl _) dX10_bind_11 (by refine ⟨(if_neg c_6).symm, ?_, hk⟩; show mR E M y b1 b2 b3 b4 b5 b6 b7 b8 b9 b10 b11 b12 b13 b14 b15 b16 (nn, ins, nf, fn, bk, rw, (if vL w then w else bd), st, c2, c3, c4); rw [if_neg c_6]; exact hC0)
theorem in_X10_instrument_X10 : ∀ w ∈ wsX100, w ∈ wsX10_instrument := by decide +kernel
set_option maxHeartbeats 4000000 in
set_option maxRecDepth 100000 in
theorem c_X10_instrument (l : Launch) (E : mEnv) (M : mMem) (sz : Nat) (y b1 b2 b3 b4 b5 b6 b7 b8 b9 b10 b11 b12 b13 b14 b15 b16 nn nf : Nat) (ins : Nat → sIn) (fn : Nat → Int32 × Int32) (bk : Nat → Option Nat) (rw : Nat → sRw) (bd st c2 c3 c4 : Int32) (hV : Inv (nn, ins, nf, fn, bk, rw, bd, st, c2, c3, c4)) (hC : mR E M y b1 b2 b3 b4 b5 b6 b7 b8 b9 b10 b11 b12 b13 b14 b15 b16 (nn, ins, nf, fn, bk, rw, bd, st, c2, c3, c4)) (hnd : [y, b1, b2, b3, b4, b5, b6, b7, b8, b9, b10, b11, b12, b13, b14, b15, b16].Nodup) (s0 : Int32)    : Met l yX10_instrument wsX10_instrument ({ frames := 1, cells := 0, slots := 0, locals := 22 }) (mPre E M sz [.ref y, .int s0]) (mQi E M sz (fun r u => r = aInst (nn, ins, nf, fn, bk, rw, bd, st, c2, c3, c4) s0 ∧ mR E u y b1 b2 b3 b4 b5 b6 b7 b8 b9 b10 b11 b12 b13 b14 b15 b16 (nInst (nn, ins, nf, fn, bk, rw, bd, st, c2, c3, c4) s0) ∧ kept (nol y b1 b2 b3 b4 b5 b6 b7 b8 b9 b10 b11 b12 b13 b14 b15 b16) M u)) (0) (0) (mA M sz) := by
  refine m_met [.ref y, .int s0] (by decide) rfl (Nat.le_of_ble_eq_true rfl) ?_
  intro p e s m below meth c ls H eH hx hb hr hts hown hlocks hnm hml hsz hE hM hS hA hl
  have hl : lv_has ls 2 [(0, .ref y), (1, .int s0)] := hl
  have hC0 := hC
  obtain ⟨fa, B, T, LN, SZ, SM, SO, KN, PI, ON, PH, LE, KD, NM, CT, CM, MV, ⟨g_y, g_b1, g_b2, g_b3, g_b4, g_b5, g_b6, g_b7, g_b8, g_b9, g_b10, g_b11, g_b12, g_b13, g_b14, g_b15, g_b16⟩, hB, hT, hR, hN, hF, hc2, hc3, hc4⟩ := hC
  have hiK := hV.insK
  have h24t := hV.tb24
  have h40 := hV.n40
  obtain ⟨hnn, hnf, hvI, hvD, hv24, hvR, hvF⟩ := id hV
  have h24 : ∀ k, k < 10 → ∀ r, bk k = some r → r < 24 := fun k hk r hr => hv24 r (Or.inl ⟨k, hk, hr⟩)
  have hk : kept (nol y b1 b2 b3 b4 b5 b6 b7 b8 b9 b10 b11 b12 b13 b14 b15 b16) M M := kept.rf
  refine lv_iload_n hx hb dX10_instrument_0 rfl (lv_at hl 1 rfl) ?_
  refine lv_iconst (v := 0) hx hb dX10_instrument_1 (by decide) ?_
  refine lv_iconst (v := 4) hx hb dX10_instrument_2 (by decide) ?_
  refine m_calli (va_runS (As := [.int s0, .int 0, .int 4]) (rest := []) ⟨hx, hb, hml, hown, hts⟩ (c_X10_in l E M H.size s0 0 4) (va_cwS 3 hts gX10_instrument_X10_in rfl rfl rfl (by decide +kernel) ⟨Nat.le_of_ble_eq_true rfl, Nat.le_of_ble_eq_true rfl⟩) (m_preS hE hM) rfl rfl hl.1 rfl (lv_room (Nat.le_of_ble_eq_true rfl)) dX10_instrument_3 ⟨Nat.le_of_ble_eq_true rfl, Nat.le_of_ble_eq_true rfl⟩) hM hS hA (fun r0 u H locs hw hM hS => ?_)
  obtain ⟨e_r0, eu⟩ := hw
  rw [eu] at hM
  rw [bI_congr (in_4s)] at e_r0
  subst e_r0
  refine lv_if_ne (tgt := 11) hx hb dX10_instrument_6 (by decide) (fun c_6 => ?_) (fun c_6 => ?_)
  · skip
    rw [bI_ne] at c_6
    refine lv_aload_n hx hb dX10_instrument_11 rfl (lv_at hl 0 rfl) ?_
    refine m_get (ci := 8) (v := .int (nI nn)) (C := RX10) (T := TX10) (N := 21) hx hb hts in_X10_instrument_X10 hown hE hM g_y rfl 5 (by decide) (hts (.fieldLink RX10 65 "CallWays2Model" "instruments" "I") (by decide +kernel)) (fun _ h9 => h9) rfl dX10_instrument_12 ?_
    refine lv_bipush (v := 12) hx hb dX10_instrument_15 (by decide) ?_
    refine lv_icmp_ne (tgt := 23) hx hb dX10_instrument_17 (by decide) (fun c_17 => ?_) (fun c_17 => ?_)
    · skip
      have hlt := n12 hnn c_17
      refine lv_aload_n hx hb dX10_instrument_23 rfl (lv_at hl 0 rfl) ?_
      refine m_get (ci := 8) (v := .ref b6) (C := RX10) (T := TX10) (N := 21) hx hb hts in_X10_instrument_X10 hown hE hM g_y rfl 6 (by decide) (hts (.fieldLink RX10 26 "CallWays2Model" "sorts" "[I") (by decide +kernel)) (fun _ h9 => h9) rfl dX10_instrument_24 ?_
      refine lv_aload_n hx hb dX10_instrument_27 rfl (lv_at hl 0 rfl) ?_
      refine m_get (ci := 8) (v := .int (nI nn)) (C := RX10) (T := TX10) (N := 21) hx hb hts in_X10_instrument_X10 hown hE hM g_y rfl 5 (by decide) (hts (.fieldLink RX10 65 "CallWays2Model" "instruments" "I") (by decide +kernel)) (fun _ h9 => h9) rfl dX10_instrument_28 ?_
      refine lv_iload_n hx hb dX10_instrument_31 rfl (lv_at hl 1 rfl) ?_
      refine m_iast hx hb hE hM hS g_b6 (vp_in_nI hlt (by decide)) dX10_instrument_32 (fun H locs hM hS => ?_)
      rw [show upd SO (nI nn).toNatClampNeg s0 = upd SO nn s0 from by rw [nI_clamp (by omega)]] at hM
      have hM : mOK E.1 (mA M sz) (mUp M b6 (mI E 12 (upd SO nn s0))) H := hM
      obtain ⟨M1, eM1⟩ : ∃ z, z = mUp M b6 (mI E 12 (upd SO nn s0)) := ⟨_, rfl⟩
      rw [← eM1] at hM
      have g_y_ : M1 y = some (mO 8 [.ref b1, .ref b2, .ref b3, .ref b4, .ref b5, .int (nI nn), .ref b6, .ref b7, .ref b8, .ref b9, .ref b10, .ref b11, .int (nI nf), .ref b12, .ref b13, .int bd, .int st, .int fa, .ref b14, .ref b15, .ref b16]) := by rw [eM1]; exact mUp_at (nd_ne hnd 0 6 rfl rfl (by decide)) g_y
      have g_b1_ : M1 b1 = some (mI E 10 B) := by rw [eM1]; exact mUp_at (nd_ne hnd 1 6 rfl rfl (by decide)) g_b1
      have g_b2_ : M1 b2 = some (mI E 12 T) := by rw [eM1]; exact mUp_at (nd_ne hnd 2 6 rfl rfl (by decide)) g_b2
      have g_b3_ : M1 b3 = some (mI E 24 LN) := by rw [eM1]; exact mUp_at (nd_ne hnd 3 6 rfl rfl (by decide)) g_b3
      have g_b4_ : M1 b4 = some (mI E 24 SZ) := by rw [eM1]; exact mUp_at (nd_ne hnd 4 6 rfl rfl (by decide)) g_b4
      have g_b5_ : M1 b5 = some (mJ E 960 SM) := by rw [eM1]; exact mUp_at (nd_ne hnd 5 6 rfl rfl (by decide)) g_b5
      have g_b7_ : M1 b7 = some (mI E 48 KN) := by rw [eM1]; exact mUp_at (nd_ne hnd 7 6 rfl rfl (by decide)) g_b7
      have g_b8_ : M1 b8 = some (mI E 12 PI) := by rw [eM1]; exact mUp_at (nd_ne hnd 8 6 rfl rfl (by decide)) g_b8
      have g_b9_ : M1 b9 = some (mZ E 12 ON) := by rw [eM1]; exact mUp_at (nd_ne hnd 9 6 rfl rfl (by decide)) g_b9
      have g_b10_ : M1 b10 = some (mI E 12 PH) := by rw [eM1]; exact mUp_at (nd_ne hnd 10 6 rfl rfl (by decide)) g_b10
      have g_b11_ : M1 b11 = some (mDb E 12 LE) := by rw [eM1]; exact mUp_at (nd_ne hnd 11 6 rfl rfl (by decide)) g_b11
      have g_b12_ : M1 b12 = some (mI E 8 KD) := by rw [eM1]; exact mUp_at (nd_ne hnd 12 6 rfl rfl (by decide)) g_b12
      have g_b13_ : M1 b13 = some (mI E 8 NM) := by rw [eM1]; exact mUp_at (nd_ne hnd 13 6 rfl rfl (by decide)) g_b13
      have g_b14_ : M1 b14 = some (mI E 3 CT) := by rw [eM1]; exact mUp_at (nd_ne hnd 14 6 rfl rfl (by decide)) g_b14
      have g_b15_ : M1 b15 = some (mDb E 40 CM) := by rw [eM1]; exact mUp_at (nd_ne hnd 15 6 rfl rfl (by decide)) g_b15
      have g_b16_ : M1 b16 = some (mJ E 40 MV) := by rw [eM1]; exact mUp_at (nd_ne hnd 16 6 rfl rfl (by decide)) g_b16
      have g_y := g_y_
      have g_b1 := g_b1_
      have g_b2 := g_b2_
      have g_b3 := g_b3_
      have g_b4 := g_b4_
      have g_b5 := g_b5_
      have g_b7 := g_b7_
      have g_b8 := g_b8_
      have g_b9 := g_b9_
      have g_b10 := g_b10_
      have g_b11 := g_b11_
      have g_b12 := g_b12_
      have g_b13 := g_b13_
      have g_b14 := g_b14_
      have g_b15 := g_b15_
      have g_b16 := g_b16_
      have g_b6 : M1 b6 = some (mI E 12 (upd SO nn s0)) := by rw [eM1]; exact mUp_self _ _ _
      have hk : kept (nol y b1 b2 b3 b4 b5 b6 b7 b8 b9 b10 b11 b12 b13 b14 b15 b16) M M1 := (by rw [eM1]; exact hk.up (nol_in 6 rfl))
      refine lv_aload_n hx hb dX10_instrument_33 rfl (lv_at hl 0 rfl) ?_
      refine lv_dup hx hb dX10_instrument_34 rfl ?_
      refine m_get (ci := 8) (v := .int (nI nn)) (C := RX10) (T := TX10) (N := 21) hx hb hts in_X10_instrument_X10 hown hE hM g_y rfl 5 (by decide) (hts (.fieldLink RX10 65 "CallWays2Model" "instruments" "I") (by decide +kernel)) (fun _ h9 => h9) rfl dX10_instrument_35 ?_
      refine lv_iconst (v := 1) hx hb dX10_instrument_38 (by decide) ?_
      refine lv_iadd hx hb dX10_instrument_39 ?_
      rw [nI_1]
      refine m_put (ci := 8) (v := .int (nI (nn + 1))) (ty := .int) (C := RX10) (T := TX10) (N := 21) hx hb hts in_X10_instrument_X10 tyX10 tyX10_ok nmX10 hown hE hM hS g_y rfl 5 (by decide) (hts (.fieldLink RX10 65 "CallWays2Model" "instruments" "I") (by decide +kernel)) (fun _ h9 => h9) rfl (by decide +kernel) rfl rfl (Nat.le_of_ble_eq_true rfl) dX10_instrument_40 (fun H locs hM hS => ?_)
      have hM : mOK E.1 (mA M sz) (mUp M1 y (mO 8 [.ref b1, .ref b2, .ref b3, .ref b4, .ref b5, .int (nI (nn + 1)), .ref b6, .ref b7, .ref b8, .ref b9, .ref b10, .ref b11, .int (nI nf), .ref b12, .ref b13, .int bd, .int st, .int fa, .ref b14, .ref b15, .ref b16])) H := hM
      obtain ⟨M2, eM2⟩ : ∃ z, z = mUp M1 y (mO 8 [.ref b1, .ref b2, .ref b3, .ref b4, .ref b5, .int (nI (nn + 1)), .ref b6, .ref b7, .ref b8, .ref b9, .ref b10, .ref b11, .int (nI nf), .ref b12, .ref b13, .int bd, .int st, .int fa, .ref b14, .ref b15, .ref b16]) := ⟨_, rfl⟩
      rw [← eM2] at hM
      have g_b1_ : M2 b1 = some (mI E 10 B) := by rw [eM2]; exact mUp_at (nd_ne hnd 1 0 rfl rfl (by decide)) g_b1
      have g_b2_ : M2 b2 = some (mI E 12 T) := by rw [eM2]; exact mUp_at (nd_ne hnd 2 0 rfl rfl (by decide)) g_b2
      have g_b3_ : M2 b3 = some (mI E 24 LN) := by rw [eM2]; exact mUp_at (nd_ne hnd 3 0 rfl rfl (by decide)) g_b3
      have g_b4_ : M2 b4 = some (mI E 24 SZ) := by rw [eM2]; exact mUp_at (nd_ne hnd 4 0 rfl rfl (by decide)) g_b4
      have g_b5_ : M2 b5 = some (mJ E 960 SM) := by rw [eM2]; exact mUp_at (nd_ne hnd 5 0 rfl rfl (by decide)) g_b5
      have g_b6_ : M2 b6 = some (mI E 12 (upd SO nn s0)) := by rw [eM2]; exact mUp_at (nd_ne hnd 6 0 rfl rfl (by decide)) g_b6
      have g_b7_ : M2 b7 = some (mI E 48 KN) := by rw [eM2]; exact mUp_at (nd_ne hnd 7 0 rfl rfl (by decide)) g_b7
      have g_b8_ : M2 b8 = some (mI E 12 PI) := by rw [eM2]; exact mUp_at (nd_ne hnd 8 0 rfl rfl (by decide)) g_b8
      have g_b9_ : M2 b9 = some (mZ E 12 ON) := by rw [eM2]; exact mUp_at (nd_ne hnd 9 0 rfl rfl (by decide)) g_b9
      have g_b10_ : M2 b10 = some (mI E 12 PH) := by rw [eM2]; exact mUp_at (nd_ne hnd 10 0 rfl rfl (by decide)) g_b10
      have g_b11_ : M2 b11 = some (mDb E 12 LE) := by rw [eM2]; exact mUp_at (nd_ne hnd 11 0 rfl rfl (by decide)) g_b11
      have g_b12_ : M2 b12 = some (mI E 8 KD) := by rw [eM2]; exact mUp_at (nd_ne hnd 12 0 rfl rfl (by decide)) g_b12
      have g_b13_ : M2 b13 = some (mI E 8 NM) := by rw [eM2]; exact mUp_at (nd_ne hnd 13 0 rfl rfl (by decide)) g_b13
      have g_b14_ : M2 b14 = some (mI E 3 CT) := by rw [eM2]; exact mUp_at (nd_ne hnd 14 0 rfl rfl (by decide)) g_b14
      have g_b15_ : M2 b15 = some (mDb E 40 CM) := by rw [eM2]; exact mUp_at (nd_ne hnd 15 0 rfl rfl (by decide)) g_b15
      have g_b16_ : M2 b16 = some (mJ E 40 MV) := by rw [eM2]; exact mUp_at (nd_ne hnd 16 0 rfl rfl (by decide)) g_b16
      have g_b1 := g_b1_
      have g_b2 := g_b2_
      have g_b3 := g_b3_
      have g_b4 := g_b4_
      have g_b5 := g_b5_
      have g_b6 := g_b6_
      have g_b7 := g_b7_
      have g_b8 := g_b8_
      have g_b9 := g_b9_
      have g_b10 := g_b10_
      have g_b11 := g_b11_
      have g_b12 := g_b12_
      have g_b13 := g_b13_
      have g_b14 := g_b14_
      have g_b15 := g_b15_
      have g_b16 := g_b16_
      have g_y : M2 y = some (mO 8 [.ref b1, .ref b2, .ref b3, .ref b4, .ref b5, .int (nI (nn + 1)), .ref b6, .ref b7, .ref b8, .ref b9, .ref b10, .ref b11, .int (nI nf), .ref b12, .ref b13, .int bd, .int st, .int fa, .ref b14, .ref b15, .ref b16]) := by rw [eM2]; exact mUp_self _ _ _
      have hk : kept (nol y b1 b2 b3 b4 b5 b6 b7 b8 b9 b10 b11 b12 b13 b14 b15 b16) M M2 := (by rw [eM2]; exact hk.up (nol_in 0 rfl))
      refine lv_aload_n hx hb dX10_instrument_43 rfl (lv_at hl 0 rfl) ?_
      refine m_get (ci := 8) (v := .int (nI (nn + 1))) (C := RX10) (T := TX10) (N := 21) hx hb hts in_X10_instrument_X10 hown hE hM g_y rfl 5 (by decide) (hts (.fieldLink RX10 65 "CallWays2Model" "instruments" "I") (by decide +kernel)) (fun _ h9 => h9) rfl dX10_instrument_44 ?_
      refine lv_iconst (v := 1) hx hb dX10_instrument_47 (by decide) ?_
      refine lv_isub hx hb dX10_instrument_48 ?_
      rw [show nI (nn + 1) - 1 = nI nn from (by rw [← nI_1]; exact nI_p1m1 nn)]
      exact m_iret hx hb hr hlocks hM hS (Nat.le_refl _) (Nat.le_refl _) dX10_instrument_49 (by refine ⟨(by show _ = (if vS s0 then (if nn < 12 then nI nn else -2) else -1); rw [if_pos c_6, if_pos hlt]), ?_, hk⟩; show mR E _ y b1 b2 b3 b4 b5 b6 b7 b8 b9 b10 b11 b12 b13 b14 b15 b16 (if vS s0 ∧ nn < 12 then _ else _); rw [if_pos ⟨c_6, hlt⟩]; exact ⟨_, _, _, _, _, _, _, _, _, _, _, _, _, _, _, _, _, ⟨g_y, g_b1, g_b2, g_b3, g_b4, g_b5, g_b6, g_b7, g_b8, g_b9, g_b10, g_b11, g_b12, g_b13, g_b14, g_b15, g_b16⟩, hB, (by rw [inst_tb hvD]; exact hT), (hR.mono (inst_lv hvD)), (inst_N hlt hvD hN c_6), hF, hc2, hc3, hc4⟩)
    · skip
      have hlt : ¬ nn < 12 := fun q => nI12 q c_17
      refine lv_bipush (v := -2) hx hb dX10_instrument_20 (by decide) ?_
      exact m_iret hx hb hr hlocks hM hS (Nat.le_refl _) (Nat.le_refl _) dX10_instrument_22 (by refine ⟨(by show _ = (if vS s0 then (if nn < 12 then nI nn else -2) else -1); rw [if_pos c_6, if_neg hlt]), ?_, hk⟩; show mR E M y b1 b2 b3 b4 b5 b6 b7 b8 b9 b10 b11 b12 b13 b14 b15 b16 (if vS s0 ∧ nn < 12 then _ else _); rw [if_neg (na2 hlt)]; exact hC0)
  · skip
    rw [bI_eq] at c_6
    refine lv_iconst (v := -1) hx hb dX10_instrument_9 (by decide) ?_
    exact m_iret hx hb hr hlocks hM hS (Nat.le_refl _) (Nat.le_refl _) dX10_instrument_10 (by refine ⟨(if_neg c_6).symm, ?_, hk⟩; show mR E M y b1 b2 b3 b4 b5 b6 b7 b8 b9 b10 b11 b12 b13 b14 b15 b16 (if vS s0 ∧ nn < 12 then _ else _); rw [if_neg (na1 c_6)]; exact hC0)
theorem in_X10_function_X10 : ∀ w ∈ wsX100, w ∈ wsX10_function := by decide +kernel
set_option maxHeartbeats 4000000 in
set_option maxRecDepth 100000 in
theorem c_X10_function (l : Launch) (E : mEnv) (M : mMem) (sz : Nat) (y b1 b2 b3 b4 b5 b6 b7 b8 b9 b10 b11 b12 b13 b14 b15 b16 nn nf : Nat) (ins : Nat → sIn) (fn : Nat → Int32 × Int32) (bk : Nat → Option Nat) (rw : Nat → sRw) (bd st c2 c3 c4 : Int32) (hV : Inv (nn, ins, nf, fn, bk, rw, bd, st, c2, c3, c4)) (hC : mR E M y b1 b2 b3 b4 b5 b6 b7 b8 b9 b10 b11 b12 b13 b14 b15 b16 (nn, ins, nf, fn, bk, rw, bd, st, c2, c3, c4)) (hnd : [y, b1, b2, b3, b4, b5, b6, b7, b8, b9, b10, b11, b12, b13, b14, b15, b16].Nodup) (s0 a0 : Int32)    : Met l yX10_function wsX10_function ({ frames := 1, cells := 0, slots := 0, locals := 22 }) (mPre E M sz [.ref y, .int s0, .int a0]) (mQi E M sz (fun r u => r = aFunc (nn, ins, nf, fn, bk, rw, bd, st, c2, c3, c4) s0 a0 ∧ mR E u y b1 b2 b3 b4 b5 b6 b7 b8 b9 b10 b11 b12 b13 b14 b15 b16 (nFunc (nn, ins, nf, fn, bk, rw, bd, st, c2, c3, c4) s0 a0) ∧ kept (nol y b1 b2 b3 b4 b5 b6 b7 b8 b9 b10 b11 b12 b13 b14 b15 b16) M u)) (0) (0) (mA M sz) := by
  refine m_met [.ref y, .int s0, .int a0] (by decide) rfl (Nat.le_of_ble_eq_true rfl) ?_
  intro p e s m below meth c ls H eH hx hb hr hts hown hlocks hnm hml hsz hE hM hS hA hl
  have hl : lv_has ls 3 [(0, .ref y), (1, .int s0), (2, .int a0)] := hl
  have hC0 := hC
  obtain ⟨fa, B, T, LN, SZ, SM, SO, KN, PI, ON, PH, LE, KD, NM, CT, CM, MV, ⟨g_y, g_b1, g_b2, g_b3, g_b4, g_b5, g_b6, g_b7, g_b8, g_b9, g_b10, g_b11, g_b12, g_b13, g_b14, g_b15, g_b16⟩, hB, hT, hR, hN, hF, hc2, hc3, hc4⟩ := hC
  have hiK := hV.insK
  have h24t := hV.tb24
  have h40 := hV.n40
  obtain ⟨hnn, hnf, hvI, hvD, hv24, hvR, hvF⟩ := id hV
  have h24 : ∀ k, k < 10 → ∀ r, bk k = some r → r < 24 := fun k hk r hr => hv24 r (Or.inl ⟨k, hk, hr⟩)
  have hk : kept (nol y b1 b2 b3 b4 b5 b6 b7 b8 b9 b10 b11 b12 b13 b14 b15 b16) M M := kept.rf
  refine lv_iload_n hx hb dX10_function_0 rfl (lv_at hl 1 rfl) ?_
  refine lv_iconst (v := 0) hx hb dX10_function_1 (by decide) ?_
  refine lv_iconst (v := 5) hx hb dX10_function_2 (by decide) ?_
  refine m_calli (va_runS (As := [.int s0, .int 0, .int 5]) (rest := []) ⟨hx, hb, hml, hown, hts⟩ (c_X10_in l E M H.size s0 0 5) (va_cwS 3 hts gX10_function_X10_in rfl rfl rfl (by decide +kernel) ⟨Nat.le_of_ble_eq_true rfl, Nat.le_of_ble_eq_true rfl⟩) (m_preS hE hM) rfl rfl hl.1 rfl (lv_room (Nat.le_of_ble_eq_true rfl)) dX10_function_3 ⟨Nat.le_of_ble_eq_true rfl, Nat.le_of_ble_eq_true rfl⟩) hM hS hA (fun r0 u H locs hw hM hS => ?_)
  obtain ⟨e_r0, eu⟩ := hw
  rw [eu] at hM
  rw [bI_congr (in_5)] at e_r0
  subst e_r0
  refine lv_if_ne (tgt := 11) hx hb dX10_function_6 (by decide) (fun c_6 => ?_) (fun c_6 => ?_)
  · skip
    rw [bI_ne] at c_6
    refine lv_aload_n hx hb dX10_function_11 rfl (lv_at hl 0 rfl) ?_
    refine m_get (ci := 8) (v := .int (nI nf)) (C := RX10) (T := TX10) (N := 21) hx hb hts in_X10_function_X10 hown hE hM g_y rfl 12 (by decide) (hts (.fieldLink RX10 109 "CallWays2Model" "functions" "I") (by decide +kernel)) (fun _ h9 => h9) rfl dX10_function_12 ?_
    refine lv_bipush (v := 8) hx hb dX10_function_15 (by decide) ?_
    refine lv_icmp_ne (tgt := 23) hx hb dX10_function_17 (by decide) (fun c_17 => ?_) (fun c_17 => ?_)
    · skip
      have hlt := n8 hnf c_17
      refine lv_aload_n hx hb dX10_function_23 rfl (lv_at hl 0 rfl) ?_
      refine m_get (ci := 8) (v := .ref b12) (C := RX10) (T := TX10) (N := 21) hx hb hts in_X10_function_X10 hown hE hM g_y rfl 13 (by decide) (hts (.fieldLink RX10 46 "CallWays2Model" "kindOf" "[I") (by decide +kernel)) (fun _ h9 => h9) rfl dX10_function_24 ?_
      refine lv_aload_n hx hb dX10_function_27 rfl (lv_at hl 0 rfl) ?_
      refine m_get (ci := 8) (v := .int (nI nf)) (C := RX10) (T := TX10) (N := 21) hx hb hts in_X10_function_X10 hown hE hM g_y rfl 12 (by decide) (hts (.fieldLink RX10 109 "CallWays2Model" "functions" "I") (by decide +kernel)) (fun _ h9 => h9) rfl dX10_function_28 ?_
      refine lv_iload_n hx hb dX10_function_31 rfl (lv_at hl 1 rfl) ?_
      refine m_iast hx hb hE hM hS g_b12 (vp_in_nI hlt (by decide)) dX10_function_32 (fun H locs hM hS => ?_)
      rw [show upd KD (nI nf).toNatClampNeg s0 = upd KD nf s0 from by rw [nI_clamp (by omega)]] at hM
      have hM : mOK E.1 (mA M sz) (mUp M b12 (mI E 8 (upd KD nf s0))) H := hM
      obtain ⟨M1, eM1⟩ : ∃ z, z = mUp M b12 (mI E 8 (upd KD nf s0)) := ⟨_, rfl⟩
      rw [← eM1] at hM
      have g_y_ : M1 y = some (mO 8 [.ref b1, .ref b2, .ref b3, .ref b4, .ref b5, .int (nI nn), .ref b6, .ref b7, .ref b8, .ref b9, .ref b10, .ref b11, .int (nI nf), .ref b12, .ref b13, .int bd, .int st, .int fa, .ref b14, .ref b15, .ref b16]) := by rw [eM1]; exact mUp_at (nd_ne hnd 0 12 rfl rfl (by decide)) g_y
      have g_b1_ : M1 b1 = some (mI E 10 B) := by rw [eM1]; exact mUp_at (nd_ne hnd 1 12 rfl rfl (by decide)) g_b1
      have g_b2_ : M1 b2 = some (mI E 12 T) := by rw [eM1]; exact mUp_at (nd_ne hnd 2 12 rfl rfl (by decide)) g_b2
      have g_b3_ : M1 b3 = some (mI E 24 LN) := by rw [eM1]; exact mUp_at (nd_ne hnd 3 12 rfl rfl (by decide)) g_b3
      have g_b4_ : M1 b4 = some (mI E 24 SZ) := by rw [eM1]; exact mUp_at (nd_ne hnd 4 12 rfl rfl (by decide)) g_b4
      have g_b5_ : M1 b5 = some (mJ E 960 SM) := by rw [eM1]; exact mUp_at (nd_ne hnd 5 12 rfl rfl (by decide)) g_b5
      have g_b6_ : M1 b6 = some (mI E 12 SO) := by rw [eM1]; exact mUp_at (nd_ne hnd 6 12 rfl rfl (by decide)) g_b6
      have g_b7_ : M1 b7 = some (mI E 48 KN) := by rw [eM1]; exact mUp_at (nd_ne hnd 7 12 rfl rfl (by decide)) g_b7
      have g_b8_ : M1 b8 = some (mI E 12 PI) := by rw [eM1]; exact mUp_at (nd_ne hnd 8 12 rfl rfl (by decide)) g_b8
      have g_b9_ : M1 b9 = some (mZ E 12 ON) := by rw [eM1]; exact mUp_at (nd_ne hnd 9 12 rfl rfl (by decide)) g_b9
      have g_b10_ : M1 b10 = some (mI E 12 PH) := by rw [eM1]; exact mUp_at (nd_ne hnd 10 12 rfl rfl (by decide)) g_b10
      have g_b11_ : M1 b11 = some (mDb E 12 LE) := by rw [eM1]; exact mUp_at (nd_ne hnd 11 12 rfl rfl (by decide)) g_b11
      have g_b13_ : M1 b13 = some (mI E 8 NM) := by rw [eM1]; exact mUp_at (nd_ne hnd 13 12 rfl rfl (by decide)) g_b13
      have g_b14_ : M1 b14 = some (mI E 3 CT) := by rw [eM1]; exact mUp_at (nd_ne hnd 14 12 rfl rfl (by decide)) g_b14
      have g_b15_ : M1 b15 = some (mDb E 40 CM) := by rw [eM1]; exact mUp_at (nd_ne hnd 15 12 rfl rfl (by decide)) g_b15
      have g_b16_ : M1 b16 = some (mJ E 40 MV) := by rw [eM1]; exact mUp_at (nd_ne hnd 16 12 rfl rfl (by decide)) g_b16
      have g_y := g_y_
      have g_b1 := g_b1_
      have g_b2 := g_b2_
      have g_b3 := g_b3_
      have g_b4 := g_b4_
      have g_b5 := g_b5_
      have g_b6 := g_b6_
      have g_b7 := g_b7_
      have g_b8 := g_b8_
      have g_b9 := g_b9_
      have g_b10 := g_b10_
      have g_b11 := g_b11_
      have g_b13 := g_b13_
      have g_b14 := g_b14_
      have g_b15 := g_b15_
      have g_b16 := g_b16_
      have g_b12 : M1 b12 = some (mI E 8 (upd KD nf s0)) := by rw [eM1]; exact mUp_self _ _ _
      have hk : kept (nol y b1 b2 b3 b4 b5 b6 b7 b8 b9 b10 b11 b12 b13 b14 b15 b16) M M1 := (by rw [eM1]; exact hk.up (nol_in 12 rfl))
      refine lv_aload_n hx hb dX10_function_33 rfl (lv_at hl 0 rfl) ?_
      refine m_get (ci := 8) (v := .ref b13) (C := RX10) (T := TX10) (N := 21) hx hb hts in_X10_function_X10 hown hE hM g_y rfl 14 (by decide) (hts (.fieldLink RX10 49 "CallWays2Model" "numberOf" "[I") (by decide +kernel)) (fun _ h9 => h9) rfl dX10_function_34 ?_
      refine lv_aload_n hx hb dX10_function_37 rfl (lv_at hl 0 rfl) ?_
      refine m_get (ci := 8) (v := .int (nI nf)) (C := RX10) (T := TX10) (N := 21) hx hb hts in_X10_function_X10 hown hE hM g_y rfl 12 (by decide) (hts (.fieldLink RX10 109 "CallWays2Model" "functions" "I") (by decide +kernel)) (fun _ h9 => h9) rfl dX10_function_38 ?_
      refine lv_iload_n hx hb dX10_function_41 rfl (lv_at hl 2 rfl) ?_
      refine m_iast hx hb hE hM hS g_b13 (vp_in_nI hlt (by decide)) dX10_function_42 (fun H locs hM hS => ?_)
      rw [show upd NM (nI nf).toNatClampNeg a0 = upd NM nf a0 from by rw [nI_clamp (by omega)]] at hM
      have hM : mOK E.1 (mA M sz) (mUp M1 b13 (mI E 8 (upd NM nf a0))) H := hM
      obtain ⟨M2, eM2⟩ : ∃ z, z = mUp M1 b13 (mI E 8 (upd NM nf a0)) := ⟨_, rfl⟩
      rw [← eM2] at hM
      have g_y_ : M2 y = some (mO 8 [.ref b1, .ref b2, .ref b3, .ref b4, .ref b5, .int (nI nn), .ref b6, .ref b7, .ref b8, .ref b9, .ref b10, .ref b11, .int (nI nf), .ref b12, .ref b13, .int bd, .int st, .int fa, .ref b14, .ref b15, .ref b16]) := by rw [eM2]; exact mUp_at (nd_ne hnd 0 13 rfl rfl (by decide)) g_y
      have g_b1_ : M2 b1 = some (mI E 10 B) := by rw [eM2]; exact mUp_at (nd_ne hnd 1 13 rfl rfl (by decide)) g_b1
      have g_b2_ : M2 b2 = some (mI E 12 T) := by rw [eM2]; exact mUp_at (nd_ne hnd 2 13 rfl rfl (by decide)) g_b2
      have g_b3_ : M2 b3 = some (mI E 24 LN) := by rw [eM2]; exact mUp_at (nd_ne hnd 3 13 rfl rfl (by decide)) g_b3
      have g_b4_ : M2 b4 = some (mI E 24 SZ) := by rw [eM2]; exact mUp_at (nd_ne hnd 4 13 rfl rfl (by decide)) g_b4
      have g_b5_ : M2 b5 = some (mJ E 960 SM) := by rw [eM2]; exact mUp_at (nd_ne hnd 5 13 rfl rfl (by decide)) g_b5
      have g_b6_ : M2 b6 = some (mI E 12 SO) := by rw [eM2]; exact mUp_at (nd_ne hnd 6 13 rfl rfl (by decide)) g_b6
      have g_b7_ : M2 b7 = some (mI E 48 KN) := by rw [eM2]; exact mUp_at (nd_ne hnd 7 13 rfl rfl (by decide)) g_b7
      have g_b8_ : M2 b8 = some (mI E 12 PI) := by rw [eM2]; exact mUp_at (nd_ne hnd 8 13 rfl rfl (by decide)) g_b8
      have g_b9_ : M2 b9 = some (mZ E 12 ON) := by rw [eM2]; exact mUp_at (nd_ne hnd 9 13 rfl rfl (by decide)) g_b9
      have g_b10_ : M2 b10 = some (mI E 12 PH) := by rw [eM2]; exact mUp_at (nd_ne hnd 10 13 rfl rfl (by decide)) g_b10
      have g_b11_ : M2 b11 = some (mDb E 12 LE) := by rw [eM2]; exact mUp_at (nd_ne hnd 11 13 rfl rfl (by decide)) g_b11
      have g_b12_ : M2 b12 = some (mI E 8 (upd KD nf s0)) := by rw [eM2]; exact mUp_at (nd_ne hnd 12 13 rfl rfl (by decide)) g_b12
      have g_b14_ : M2 b14 = some (mI E 3 CT) := by rw [eM2]; exact mUp_at (nd_ne hnd 14 13 rfl rfl (by decide)) g_b14
      have g_b15_ : M2 b15 = some (mDb E 40 CM) := by rw [eM2]; exact mUp_at (nd_ne hnd 15 13 rfl rfl (by decide)) g_b15
      have g_b16_ : M2 b16 = some (mJ E 40 MV) := by rw [eM2]; exact mUp_at (nd_ne hnd 16 13 rfl rfl (by decide)) g_b16
      have g_y := g_y_
      have g_b1 := g_b1_
      have g_b2 := g_b2_
      have g_b3 := g_b3_
      have g_b4 := g_b4_
      have g_b5 := g_b5_
      have g_b6 := g_b6_
      have g_b7 := g_b7_
      have g_b8 := g_b8_
      have g_b9 := g_b9_
      have g_b10 := g_b10_
      have g_b11 := g_b11_
      have g_b12 := g_b12_
      have g_b14 := g_b14_
      have g_b15 := g_b15_
      have g_b16 := g_b16_
      have g_b13 : M2 b13 = some (mI E 8 (upd NM nf a0)) := by rw [eM2]; exact mUp_self _ _ _
      have hk : kept (nol y b1 b2 b3 b4 b5 b6 b7 b8 b9 b10 b11 b12 b13 b14 b15 b16) M M2 := (by rw [eM2]; exact hk.up (nol_in 13 rfl))
      refine lv_aload_n hx hb dX10_function_43 rfl (lv_at hl 0 rfl) ?_
      refine lv_dup hx hb dX10_function_44 rfl ?_
      refine m_get (ci := 8) (v := .int (nI nf)) (C := RX10) (T := TX10) (N := 21) hx hb hts in_X10_function_X10 hown hE hM g_y rfl 12 (by decide) (hts (.fieldLink RX10 109 "CallWays2Model" "functions" "I") (by decide +kernel)) (fun _ h9 => h9) rfl dX10_function_45 ?_
      refine lv_iconst (v := 1) hx hb dX10_function_48 (by decide) ?_
      refine lv_iadd hx hb dX10_function_49 ?_
      rw [nI_1]
      refine m_put (ci := 8) (v := .int (nI (nf + 1))) (ty := .int) (C := RX10) (T := TX10) (N := 21) hx hb hts in_X10_function_X10 tyX10 tyX10_ok nmX10 hown hE hM hS g_y rfl 12 (by decide) (hts (.fieldLink RX10 109 "CallWays2Model" "functions" "I") (by decide +kernel)) (fun _ h9 => h9) rfl (by decide +kernel) rfl rfl (Nat.le_of_ble_eq_true rfl) dX10_function_50 (fun H locs hM hS => ?_)
      have hM : mOK E.1 (mA M sz) (mUp M2 y (mO 8 [.ref b1, .ref b2, .ref b3, .ref b4, .ref b5, .int (nI nn), .ref b6, .ref b7, .ref b8, .ref b9, .ref b10, .ref b11, .int (nI (nf + 1)), .ref b12, .ref b13, .int bd, .int st, .int fa, .ref b14, .ref b15, .ref b16])) H := hM
      obtain ⟨M3, eM3⟩ : ∃ z, z = mUp M2 y (mO 8 [.ref b1, .ref b2, .ref b3, .ref b4, .ref b5, .int (nI nn), .ref b6, .ref b7, .ref b8, .ref b9, .ref b10, .ref b11, .int (nI (nf + 1)), .ref b12, .ref b13, .int bd, .int st, .int fa, .ref b14, .ref b15, .ref b16]) := ⟨_, rfl⟩
      rw [← eM3] at hM
      have g_b1_ : M3 b1 = some (mI E 10 B) := by rw [eM3]; exact mUp_at (nd_ne hnd 1 0 rfl rfl (by decide)) g_b1
      have g_b2_ : M3 b2 = some (mI E 12 T) := by rw [eM3]; exact mUp_at (nd_ne hnd 2 0 rfl rfl (by decide)) g_b2
      have g_b3_ : M3 b3 = some (mI E 24 LN) := by rw [eM3]; exact mUp_at (nd_ne hnd 3 0 rfl rfl (by decide)) g_b3
      have g_b4_ : M3 b4 = some (mI E 24 SZ) := by rw [eM3]; exact mUp_at (nd_ne hnd 4 0 rfl rfl (by decide)) g_b4
      have g_b5_ : M3 b5 = some (mJ E 960 SM) := by rw [eM3]; exact mUp_at (nd_ne hnd 5 0 rfl rfl (by decide)) g_b5
      have g_b6_ : M3 b6 = some (mI E 12 SO) := by rw [eM3]; exact mUp_at (nd_ne hnd 6 0 rfl rfl (by decide)) g_b6
      have g_b7_ : M3 b7 = some (mI E 48 KN) := by rw [eM3]; exact mUp_at (nd_ne hnd 7 0 rfl rfl (by decide)) g_b7
      have g_b8_ : M3 b8 = some (mI E 12 PI) := by rw [eM3]; exact mUp_at (nd_ne hnd 8 0 rfl rfl (by decide)) g_b8
      have g_b9_ : M3 b9 = some (mZ E 12 ON) := by rw [eM3]; exact mUp_at (nd_ne hnd 9 0 rfl rfl (by decide)) g_b9
      have g_b10_ : M3 b10 = some (mI E 12 PH) := by rw [eM3]; exact mUp_at (nd_ne hnd 10 0 rfl rfl (by decide)) g_b10
      have g_b11_ : M3 b11 = some (mDb E 12 LE) := by rw [eM3]; exact mUp_at (nd_ne hnd 11 0 rfl rfl (by decide)) g_b11
      have g_b12_ : M3 b12 = some (mI E 8 (upd KD nf s0)) := by rw [eM3]; exact mUp_at (nd_ne hnd 12 0 rfl rfl (by decide)) g_b12
      have g_b13_ : M3 b13 = some (mI E 8 (upd NM nf a0)) := by rw [eM3]; exact mUp_at (nd_ne hnd 13 0 rfl rfl (by decide)) g_b13
      have g_b14_ : M3 b14 = some (mI E 3 CT) := by rw [eM3]; exact mUp_at (nd_ne hnd 14 0 rfl rfl (by decide)) g_b14
      have g_b15_ : M3 b15 = some (mDb E 40 CM) := by rw [eM3]; exact mUp_at (nd_ne hnd 15 0 rfl rfl (by decide)) g_b15
      have g_b16_ : M3 b16 = some (mJ E 40 MV) := by rw [eM3]; exact mUp_at (nd_ne hnd 16 0 rfl rfl (by decide)) g_b16
      have g_b1 := g_b1_
      have g_b2 := g_b2_
      have g_b3 := g_b3_
      have g_b4 := g_b4_
      have g_b5 := g_b5_
      have g_b6 := g_b6_
      have g_b7 := g_b7_
      have g_b8 := g_b8_
      have g_b9 := g_b9_
      have g_b10 := g_b10_
      have g_b11 := g_b11_
      have g_b12 := g_b12_
      have g_b13 := g_b13_
      have g_b14 := g_b14_
      have g_b15 := g_b15_
      have g_b16 := g_b16_
      have g_y : M3 y = some (mO 8 [.ref b1, .ref b2, .ref b3, .ref b4, .ref b5, .int (nI nn), .ref b6, .ref b7, .ref b8, .ref b9, .ref b10, .ref b11, .int (nI (nf + 1)), .ref b12, .ref b13, .int bd, .int st, .int fa, .ref b14, .ref b15, .ref b16]) := by rw [eM3]; exact mUp_self _ _ _
      have hk : kept (nol y b1 b2 b3 b4 b5 b6 b7 b8 b9 b10 b11 b12 b13 b14 b15 b16) M M3 := (by rw [eM3]; exact hk.up (nol_in 0 rfl))
      refine lv_aload_n hx hb dX10_function_53 rfl (lv_at hl 0 rfl) ?_
      refine m_get (ci := 8) (v := .int (nI (nf + 1))) (C := RX10) (T := TX10) (N := 21) hx hb hts in_X10_function_X10 hown hE hM g_y rfl 12 (by decide) (hts (.fieldLink RX10 109 "CallWays2Model" "functions" "I") (by decide +kernel)) (fun _ h9 => h9) rfl dX10_function_54 ?_
      refine lv_iconst (v := 1) hx hb dX10_function_57 (by decide) ?_
      refine lv_isub hx hb dX10_function_58 ?_
      rw [show nI (nf + 1) - 1 = nI nf from (by rw [← nI_1]; exact nI_p1m1 nf)]
      exact m_iret hx hb hr hlocks hM hS (Nat.le_refl _) (Nat.le_refl _) dX10_function_59 (by refine ⟨(by show _ = (if vF s0 then (if nf < 8 then nI nf else -2) else -1); rw [if_pos c_6, if_pos hlt]), ?_, hk⟩; show mR E _ y b1 b2 b3 b4 b5 b6 b7 b8 b9 b10 b11 b12 b13 b14 b15 b16 (if vF s0 ∧ nf < 8 then _ else _); rw [if_pos ⟨c_6, hlt⟩]; exact ⟨_, _, _, _, _, _, _, _, _, _, _, _, _, _, _, _, _, ⟨g_y, g_b1, g_b2, g_b3, g_b4, g_b5, g_b6, g_b7, g_b8, g_b9, g_b10, g_b11, g_b12, g_b13, g_b14, g_b15, g_b16⟩, hB, hT, hR, hN, (func_F hF), hc2, hc3, hc4⟩)
    · skip
      have hlt : ¬ nf < 8 := fun q => nI8 q c_17
      refine lv_bipush (v := -2) hx hb dX10_function_20 (by decide) ?_
      exact m_iret hx hb hr hlocks hM hS (Nat.le_refl _) (Nat.le_refl _) dX10_function_22 (by refine ⟨(by show _ = (if vF s0 then (if nf < 8 then nI nf else -2) else -1); rw [if_pos c_6, if_neg hlt]), ?_, hk⟩; show mR E M y b1 b2 b3 b4 b5 b6 b7 b8 b9 b10 b11 b12 b13 b14 b15 b16 (if vF s0 ∧ nf < 8 then _ else _); rw [if_neg (na2 hlt)]; exact hC0)
  · skip
    rw [bI_eq] at c_6
    refine lv_iconst (v := -1) hx hb dX10_function_9 (by decide) ?_
    exact m_iret hx hb hr hlocks hM hS (Nat.le_refl _) (Nat.le_refl _) dX10_function_10 (by refine ⟨(if_neg c_6).symm, ?_, hk⟩; show mR E M y b1 b2 b3 b4 b5 b6 b7 b8 b9 b10 b11 b12 b13 b14 b15 b16 (if vF s0 ∧ nf < 8 then _ else _); rw [if_neg (na1 c_6)]; exact hC0)
