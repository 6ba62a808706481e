theorem nar_b {o : Int32} (h : o = 0 ∨ o = 1) : vp_nar .boolean o = o := by rcases h with rfl | rfl <;> rfl
theorem rlR.set {LV : Nat → Prop} {rw : Nat → sRw} {LN SZ : Nat → Int32} {SM SM' : Nat → Int64} {w n : Nat} {lane : Int32} {f g : Nat → UInt64} (h : rlR LV rw LN SZ SM) (hw : LV w) (hrw : rw w = (lane, n, f)) (h40 : ∀ r, LV r → (rw r).2.1 ≤ 40) (hnew : ∀ j, j < n → SM' (40 * w + j) = sBits lane (g j)) (hold : ∀ r, r ≠ w → ∀ j, j < 40 → SM' (40 * r + j) = SM (40 * r + j)) : rlR LV (va_up rw w (lane, n, g)) LN SZ SM' :=
  h.add (fun r hr => Or.inl hr) h40 ⟨(h w hw _ _ _ hrw).1, (h w hw _ _ _ hrw).2.1, hnew⟩ (fun r hr => ⟨rfl, rfl, hold r hr⟩)
theorem rlN.same {nn j : Nat} {ins : Nat → sIn} {SO KN PI ON PH : Nat → Int32} {LE : Nat → UInt64} {v : sIn} (h : rlN nn ins SO KN PI ON PH LE) (hj : j < 12) (hv : v.1 = (ins j).1 ∧ v.2.1 = (ins j).2.1 ∧ v.2.2.1 = (ins j).2.2.1 ∧ v.2.2.2.1 = (ins j).2.2.2.1 ∧ v.2.2.2.2.1 = (ins j).2.2.2.2.1 ∧ v.2.2.2.2.2.1 = (ins j).2.2.2.2.2.1) : rlN nn (va_up ins j v) SO KN PI ON PH LE := by
  obtain ⟨v1, v2, v3, v4, v5, v6⟩ := hv
  refine h.up (fun i _ _ => ⟨rfl, fun _ _ => rfl, rfl, rfl, rfl, rfl⟩) (fun i _ => ⟨id, id⟩) ?_
  rw [v1, v2, v3, v4, v5, v6]
  exact h j hj _ _ _ _ _ _ _ rfl
theorem upd_up {f : Nat → Int32} {j : Nat} {v w : Int32} : upd (upd f j v) j w = upd f j w := by
  funext q
  by_cases h : q = j <;> simp [upd, h]
theorem va_up_up {α : Type} {f : Nat → α} {j : Nat} {v w : α} : va_up (va_up f j v) j w = va_up f j w := by
  funext q
  by_cases h : q = j <;> simp [va_up, h]
theorem live_T0 {nn j : Nat} {ins : Nat → sIn} {bk : Nat → Option Nat} : ∀ r, live nn (insT ins j none) bk r → live nn ins bk r := by
  rintro r (h | ⟨i, hi, he⟩)
  · exact Or.inl h
  · by_cases hij : i = j
    · subst hij
      unfold insT at he
      rw [va_up_self] at he
      cases he
    · unfold insT at he
      rw [va_up_ne _ _ hij] at he
      exact Or.inr ⟨i, hi, he⟩
theorem live_T {nn j : Nat} {ins : Nat → sIn} {bk : Nat → Option Nat} {w : Nat} : ∀ r, live nn (insT ins j (some w)) bk r → live nn (insT ins j none) bk r ∨ r = w := by
  rintro r (h | ⟨i, hi, he⟩)
  · exact Or.inl (Or.inl h)
  · by_cases hij : i = j
    · subst hij
      unfold insT at he
      rw [va_up_self] at he
      exact Or.inr (Option.some.inj he).symm
    · unfold insT at he
      rw [va_up_ne _ _ hij] at he
      refine Or.inl (Or.inr ⟨i, hi, ?_⟩)
      unfold insT
      rw [va_up_ne _ _ hij]
      exact he
theorem live_B0 {nn j : Nat} {ins : Nat → sIn} {bk : Nat → Option Nat} : ∀ r, live nn ins (va_up bk j none) r → live nn ins bk r := by
  rintro r (⟨k, hk, he⟩ | h)
  · by_cases hkj : k = j
    · subst hkj
      rw [va_up_self] at he
      cases he
    · rw [va_up_ne _ _ hkj] at he
      exact Or.inl ⟨k, hk, he⟩
  · exact Or.inr h
theorem live_B {nn j : Nat} {ins : Nat → sIn} {bk : Nat → Option Nat} {w : Nat} : ∀ r, live nn ins (va_up bk j (some w)) r → live nn ins (va_up bk j none) r ∨ r = w := by
  rintro r (⟨k, hk, he⟩ | h)
  · by_cases hkj : k = j
    · subst hkj
      rw [va_up_self] at he
      exact Or.inr (Option.some.inj he).symm
    · rw [va_up_ne _ _ hkj] at he
      exact Or.inl (Or.inl ⟨k, hk, by rw [va_up_ne _ _ hkj]; exact he⟩)
  · exact Or.inl (Or.inr h)
theorem in_1 {w : Int32} : (¬ w < 0 ∧ ¬ 1 < w) ↔ (¬ w < 0 ∧ w ≤ 1) := by rw [Int32.not_lt (a := 1)]
theorem in_m19 {b : Int32} : (¬ b < -1 ∧ ¬ 9 < b) ↔ (b = -1 ∨ vB b) := by
  rw [← in_9, Int32.lt_iff_toInt_lt, Int32.lt_iff_toInt_lt, Int32.lt_iff_toInt_lt, ← Int32.toInt_inj, show (-1 : Int32).toInt = -1 from rfl, show (9 : Int32).toInt = 9 from rfl, show (0 : Int32).toInt = 0 from rfl]
  omega
theorem sBits_0 (lane : Int32) : sBits lane 0 = 0 := by
  unfold sBits
  split
  · decide +kernel
  · split
    · rfl
    · decide +kernel
theorem in_X10_note_X10 : ∀ w ∈ wsX100, w ∈ wsX10_note := by decide +kernel
set_option maxHeartbeats 4000000 in
set_option maxRecDepth 100000 in
theorem c_X10_note (l : Launch) (E : mEnv) (M : mMem) (sz : Nat) (y b1 b2 b3 b4 b5 b6 b7 b8 b9 b10 b11 b12 b13 b14 b15 b16 nn nf : Nat) (ins : Nat → sIn) (fn : Nat → Int32 × Int32) (bk : Nat → Option Nat) (rw : Nat → sRw) (bd st c2 c3 c4 : Int32) (hV : Inv (nn, ins, nf, fn, bk, rw, bd, st, c2, c3, c4)) (hC : mR E M y b1 b2 b3 b4 b5 b6 b7 b8 b9 b10 b11 b12 b13 b14 b15 b16 (nn, ins, nf, fn, bk, rw, bd, st, c2, c3, c4)) (hnd : [y, b1, b2, b3, b4, b5, b6, b7, b8, b9, b10, b11, b12, b13, b14, b15, b16].Nodup) (i pt o : Int32) (ho : o = 0 ∨ o = 1)   : Met l yX10_note wsX10_note ({ frames := 2, cells := 0, slots := 0, locals := 43 }) (mPre E M sz [.ref y, .int i, .int pt, .int o]) (mQi E M sz (fun r u => r = aNote (nn, ins, nf, fn, bk, rw, bd, st, c2, c3, c4) i pt o ∧ mR E u y b1 b2 b3 b4 b5 b6 b7 b8 b9 b10 b11 b12 b13 b14 b15 b16 (nNote (nn, ins, nf, fn, bk, rw, bd, st, c2, c3, c4) i pt o) ∧ kept (nol y b1 b2 b3 b4 b5 b6 b7 b8 b9 b10 b11 b12 b13 b14 b15 b16) M u)) (0) (0) (mA M sz) := by
  refine m_met [.ref y, .int i, .int pt, .int o] (by decide) rfl (Nat.le_of_ble_eq_true rfl) ?_
  intro p e s m below meth c ls H eH hx hb hr hts hown hlocks hnm hml hsz hE hM hS hA hl
  have hl : lv_has ls 5 [(0, .ref y), (1, .int i), (2, .int pt), (3, .int o)] := hl
  have hC0 := hC
  obtain ⟨fa, B, T, LN, SZ, SM, SO, KN, PI, ON, PH, LE, KD, NM, CT, CM, MV, ⟨g_y, g_b1, g_b2, g_b3, g_b4, g_b5, g_b6, g_b7, g_b8, g_b9, g_b10, g_b11, g_b12, g_b13, g_b14, g_b15, g_b16⟩, hB, hT, hR, hN, hF, hc2, hc3, hc4⟩ := hC
  have hiK := hV.insK
  have h24t := hV.tb24
  have h40 := hV.n40
  obtain ⟨hnn, hnf, hvI, hvD, hv24, hvR, hvF⟩ := id hV
  have h24 : ∀ k, k < 10 → ∀ r, bk k = some r → r < 24 := fun k hk r hr => hv24 r (Or.inl ⟨k, hk, hr⟩)
  have hk : kept (nol y b1 b2 b3 b4 b5 b6 b7 b8 b9 b10 b11 b12 b13 b14 b15 b16) M M := kept.rf
  refine lv_aload_n hx hb dX10_note_0 rfl (lv_at hl 0 rfl) ?_
  refine lv_iload_n hx hb dX10_note_1 rfl (lv_at hl 1 rfl) ?_
  refine m_calli (va_runV (As := [.int i]) (rest := []) ⟨hx, hb, hml, hown, hts⟩ (c_X10_isInst l E M H.size y b1 b2 b3 b4 b5 b6 b7 b8 b9 b10 b11 b12 b13 b14 b15 b16 (nI nf) bd st fa nn hnn i g_y) (cwV 1 hts gX10_note_X10_isInstrument rfl rfl rfl (by decide +kernel) ⟨Nat.le_of_ble_eq_true rfl, Nat.le_of_ble_eq_true rfl⟩) (m_preV hE hM g_y rfl) rfl rfl hl.1 rfl (lv_room (Nat.le_of_ble_eq_true rfl)) dX10_note_2 ⟨Nat.le_of_ble_eq_true rfl, Nat.le_of_ble_eq_true rfl⟩) hM hS hA (fun r0 u H locs hw hM hS => ?_)
  obtain ⟨e_r0, eu⟩ := hw
  rw [eu] at hM
  subst e_r0
  refine lv_if_eq (tgt := 18) hx hb dX10_note_5 (by decide) (fun c_5 => ?_) (fun c_5 => ?_)
  · skip
    rw [bI_eq] at c_5
    have hz : ¬ (vI nn i ∧ vP pt) := na1 c_5
    refine lv_iconst (v := -1) hx hb dX10_note_18 (by decide) ?_
    exact m_iret hx hb hr hlocks hM hS (Nat.le_refl _) (Nat.le_refl _) dX10_note_19 (by refine ⟨(if_neg hz).symm, ?_, hk⟩; show mR E _ y b1 b2 b3 b4 b5 b6 b7 b8 b9 b10 b11 b12 b13 b14 b15 b16 (if vI nn i ∧ vP pt then _ else _); rw [if_neg hz]; exact hC0)
  · skip
    rw [bI_ne] at c_5
    obtain ⟨j, hj, hij, hjc⟩ := vI_ix c_5 hnn
    rcases hins : ins j with ⟨ci, kf, pi, on, ph, le, tb⟩
    obtain ⟨hSo, hKn, hPi, hOn, hPh, hLe⟩ := hN j (by omega) _ _ _ _ _ _ _ hins
    obtain ⟨hci, hle, hon⟩ := hvI j hj _ _ _ _ _ _ _ hins
    have hiin : vp_in i 12 := (by rw [hij]; exact vp_in_nI (by omega) (by decide))
    have htbj : tbs ins j = tb := (by show (ins j).2.2.2.2.2.2 = tb; rw [hins])
    refine lv_iload_n hx hb dX10_note_8 rfl (lv_at hl 2 rfl) ?_
    refine lv_iconst (v := 0) hx hb dX10_note_9 (by decide) ?_
    refine lv_bipush (v := 127) hx hb dX10_note_10 (by decide) ?_
    refine m_calli (va_runS (As := [.int pt, .int 0, .int 127]) (rest := []) ⟨hx, hb, hml, hown, hts⟩ (c_X10_in l E M H.size pt 0 127) (va_cwS 3 hts gX10_note_X10_in rfl rfl rfl (by decide +kernel) ⟨Nat.le_of_ble_eq_true rfl, Nat.le_of_ble_eq_true rfl⟩) (m_preS hE hM) rfl rfl hl.1 rfl (lv_room (Nat.le_of_ble_eq_true rfl)) dX10_note_12 ⟨Nat.le_of_ble_eq_true rfl, Nat.le_of_ble_eq_true rfl⟩) hM hS hA (fun r0 u H locs hw hM hS => ?_)
    obtain ⟨e_r0, eu⟩ := hw
    rw [eu] at hM
    rw [bI_congr (in_127)] at e_r0
    subst e_r0
    refine lv_if_ne (tgt := 20) hx hb dX10_note_15 (by decide) (fun c_15 => ?_) (fun c_15 => ?_)
    · skip
      rw [bI_ne] at c_15
      refine lv_aload_n hx hb dX10_note_20 rfl (lv_at hl 0 rfl) ?_
      refine m_get (ci := 8) (v := .ref b9) (C := RX10) (T := TX10) (N := 21) hx hb hts in_X10_note_X10 hown hE hM g_y rfl 9 (by decide) (hts (.fieldLink RX10 35 "CallWays2Model" "isOn" "[Z") (by decide +kernel)) (fun _ h9 => h9) rfl dX10_note_21 ?_
      refine lv_iload_n hx hb dX10_note_24 rfl (lv_at hl 1 rfl) ?_
      refine m_zald hx hb hE hM g_b9 hiin dX10_note_25 ?_
      rw [show ON i.toNatClampNeg = on from by rw [hjc, hOn]]
      refine lv_if_eq (tgt := 33) hx hb dX10_note_26 (by decide) (fun c_26 => ?_) (fun c_26 => ?_)
      · skip
        have hans : (0 : Int32) = (if on = 0 then 0 else 1) := (if_pos c_26).symm
        refine lv_iconst (v := 0) hx hb dX10_note_33 (by decide) ?_
        refine lv_istore (lv' := [(4, .int 0), (0, .ref y), (1, .int i), (2, .int pt), (3, .int o)]) hx hb dX10_note_34 hl (by decide) rfl (fun ls hl => ?_)
        refine lv_aload_n hx hb dX10_note_36 rfl (lv_at hl 1 rfl) ?_
        refine m_get (ci := 8) (v := .ref b8) (C := RX10) (T := TX10) (N := 21) hx hb hts in_X10_note_X10 hown hE hM g_y rfl 8 (by decide) (hts (.fieldLink RX10 32 "CallWays2Model" "pitches" "[I") (by decide +kernel)) (fun _ h9 => h9) rfl dX10_note_37 ?_
        refine lv_iload_n hx hb dX10_note_40 rfl (lv_at hl 2 rfl) ?_
        refine lv_iload_n hx hb dX10_note_41 rfl (lv_at hl 3 rfl) ?_
        refine m_iast hx hb hE hM hS g_b8 hiin dX10_note_42 (fun H locs hM hS => ?_)
        rw [show upd PI i.toNatClampNeg pt = upd PI j pt from by rw [hjc]] at hM
        have hM : mOK E.1 (mA M sz) (mUp M b8 (mI E 12 (upd PI j pt))) H := hM
        obtain ⟨M1, eM1⟩ : ∃ z, z = mUp M b8 (mI E 12 (upd PI j pt)) := ⟨_, rfl⟩
        rw [← eM1] at hM
        have g_y_ : M1 y = some (mO 8 [.ref b1, .ref b2, .ref b3, .ref b4, .ref b5, .int (nI nn), .ref b6, .ref b7, .ref b8, .ref b9, .ref b10, .ref b11, .int (nI nf), .ref b12, .ref b13, .int bd, .int st, .int fa, .ref b14, .ref b15, .ref b16]) := by rw [eM1]; exact mUp_at (nd_ne hnd 0 8 rfl rfl (by decide)) g_y
        have g_b1_ : M1 b1 = some (mI E 10 B) := by rw [eM1]; exact mUp_at (nd_ne hnd 1 8 rfl rfl (by decide)) g_b1
        have g_b2_ : M1 b2 = some (mI E 12 T) := by rw [eM1]; exact mUp_at (nd_ne hnd 2 8 rfl rfl (by decide)) g_b2
        have g_b3_ : M1 b3 = some (mI E 24 LN) := by rw [eM1]; exact mUp_at (nd_ne hnd 3 8 rfl rfl (by decide)) g_b3
        have g_b4_ : M1 b4 = some (mI E 24 SZ) := by rw [eM1]; exact mUp_at (nd_ne hnd 4 8 rfl rfl (by decide)) g_b4
        have g_b5_ : M1 b5 = some (mJ E 960 SM) := by rw [eM1]; exact mUp_at (nd_ne hnd 5 8 rfl rfl (by decide)) g_b5
        have g_b6_ : M1 b6 = some (mI E 12 SO) := by rw [eM1]; exact mUp_at (nd_ne hnd 6 8 rfl rfl (by decide)) g_b6
        have g_b7_ : M1 b7 = some (mI E 48 KN) := by rw [eM1]; exact mUp_at (nd_ne hnd 7 8 rfl rfl (by decide)) g_b7
        have g_b9_ : M1 b9 = some (mZ E 12 ON) := by rw [eM1]; exact mUp_at (nd_ne hnd 9 8 rfl rfl (by decide)) g_b9
        have g_b10_ : M1 b10 = some (mI E 12 PH) := by rw [eM1]; exact mUp_at (nd_ne hnd 10 8 rfl rfl (by decide)) g_b10
        have g_b11_ : M1 b11 = some (mDb E 12 LE) := by rw [eM1]; exact mUp_at (nd_ne hnd 11 8 rfl rfl (by decide)) g_b11
        have g_b12_ : M1 b12 = some (mI E 8 KD) := by rw [eM1]; exact mUp_at (nd_ne hnd 12 8 rfl rfl (by decide)) g_b12
        have g_b13_ : M1 b13 = some (mI E 8 NM) := by rw [eM1]; exact mUp_at (nd_ne hnd 13 8 rfl rfl (by decide)) g_b13
        have g_b14_ : M1 b14 = some (mI E 3 CT) := by rw [eM1]; exact mUp_at (nd_ne hnd 14 8 rfl rfl (by decide)) g_b14
        have g_b15_ : M1 b15 = some (mDb E 40 CM) := by rw [eM1]; exact mUp_at (nd_ne hnd 15 8 rfl rfl (by decide)) g_b15
        have g_b16_ : M1 b16 = some (mJ E 40 MV) := by rw [eM1]; exact mUp_at (nd_ne hnd 16 8 rfl rfl (by decide)) g_b16
        have g_y := g_y_
        have g_b1 := g_b1_
        have g_b2 := g_b2_
        have g_b3 := g_b3_
        have g_b4 := g_b4_
        have g_b5 := g_b5_
        have g_b6 := g_b6_
        have g_b7 := g_b7_
        have g_b9 := g_b9_
        have g_b10 := g_b10_
        have g_b11 := g_b11_
        have g_b12 := g_b12_
        have g_b13 := g_b13_
        have g_b14 := g_b14_
        have g_b15 := g_b15_
        have g_b16 := g_b16_
        have g_b8 : M1 b8 = some (mI E 12 (upd PI j pt)) := by rw [eM1]; exact mUp_self _ _ _
        have hk : kept (nol y b1 b2 b3 b4 b5 b6 b7 b8 b9 b10 b11 b12 b13 b14 b15 b16) M M1 := (by rw [eM1]; exact hk.up (nol_in 8 rfl))
        refine lv_aload_n hx hb dX10_note_43 rfl (lv_at hl 1 rfl) ?_
        refine m_get (ci := 8) (v := .ref b9) (C := RX10) (T := TX10) (N := 21) hx hb hts in_X10_note_X10 hown hE hM g_y rfl 9 (by decide) (hts (.fieldLink RX10 35 "CallWays2Model" "isOn" "[Z") (by decide +kernel)) (fun _ h9 => h9) rfl dX10_note_44 ?_
        refine lv_iload_n hx hb dX10_note_47 rfl (lv_at hl 2 rfl) ?_
        refine lv_iload_n hx hb dX10_note_48 rfl (lv_at hl 4 rfl) ?_
        refine m_zast hx hb hE hM hS g_b9 hiin dX10_note_49 (fun H locs hM hS => ?_)
        rw [show upd ON i.toNatClampNeg (vp_nar .boolean o) = upd ON j o from by rw [hjc, nar_b ho]] at hM
        have hM : mOK E.1 (mA M sz) (mUp M1 b9 (mZ E 12 (upd ON j o))) H := hM
        obtain ⟨M2, eM2⟩ : ∃ z, z = mUp M1 b9 (mZ E 12 (upd ON j o)) := ⟨_, rfl⟩
        rw [← eM2] at hM
        have g_y_ : M2 y = some (mO 8 [.ref b1, .ref b2, .ref b3, .ref b4, .ref b5, .int (nI nn), .ref b6, .ref b7, .ref b8, .ref b9, .ref b10, .ref b11, .int (nI nf), .ref b12, .ref b13, .int bd, .int st, .int fa, .ref b14, .ref b15, .ref b16]) := by rw [eM2]; exact mUp_at (nd_ne hnd 0 9 rfl rfl (by decide)) g_y
        have g_b1_ : M2 b1 = some (mI E 10 B) := by rw [eM2]; exact mUp_at (nd_ne hnd 1 9 rfl rfl (by decide)) g_b1
        have g_b2_ : M2 b2 = some (mI E 12 T) := by rw [eM2]; exact mUp_at (nd_ne hnd 2 9 rfl rfl (by decide)) g_b2
        have g_b3_ : M2 b3 = some (mI E 24 LN) := by rw [eM2]; exact mUp_at (nd_ne hnd 3 9 rfl rfl (by decide)) g_b3
        have g_b4_ : M2 b4 = some (mI E 24 SZ) := by rw [eM2]; exact mUp_at (nd_ne hnd 4 9 rfl rfl (by decide)) g_b4
        have g_b5_ : M2 b5 = some (mJ E 960 SM) := by rw [eM2]; exact mUp_at (nd_ne hnd 5 9 rfl rfl (by decide)) g_b5
        have g_b6_ : M2 b6 = some (mI E 12 SO) := by rw [eM2]; exact mUp_at (nd_ne hnd 6 9 rfl rfl (by decide)) g_b6
        have g_b7_ : M2 b7 = some (mI E 48 KN) := by rw [eM2]; exact mUp_at (nd_ne hnd 7 9 rfl rfl (by decide)) g_b7
        have g_b8_ : M2 b8 = some (mI E 12 (upd PI j pt)) := by rw [eM2]; exact mUp_at (nd_ne hnd 8 9 rfl rfl (by decide)) g_b8
        have g_b10_ : M2 b10 = some (mI E 12 PH) := by rw [eM2]; exact mUp_at (nd_ne hnd 10 9 rfl rfl (by decide)) g_b10
        have g_b11_ : M2 b11 = some (mDb E 12 LE) := by rw [eM2]; exact mUp_at (nd_ne hnd 11 9 rfl rfl (by decide)) g_b11
        have g_b12_ : M2 b12 = some (mI E 8 KD) := by rw [eM2]; exact mUp_at (nd_ne hnd 12 9 rfl rfl (by decide)) g_b12
        have g_b13_ : M2 b13 = some (mI E 8 NM) := by rw [eM2]; exact mUp_at (nd_ne hnd 13 9 rfl rfl (by decide)) g_b13
        have g_b14_ : M2 b14 = some (mI E 3 CT) := by rw [eM2]; exact mUp_at (nd_ne hnd 14 9 rfl rfl (by decide)) g_b14
        have g_b15_ : M2 b15 = some (mDb E 40 CM) := by rw [eM2]; exact mUp_at (nd_ne hnd 15 9 rfl rfl (by decide)) g_b15
        have g_b16_ : M2 b16 = some (mJ E 40 MV) := by rw [eM2]; exact mUp_at (nd_ne hnd 16 9 rfl rfl (by decide)) g_b16
        have g_y := g_y_
        have g_b1 := g_b1_
        have g_b2 := g_b2_
        have g_b3 := g_b3_
        have g_b4 := g_b4_
        have g_b5 := g_b5_
        have g_b6 := g_b6_
        have g_b7 := g_b7_
        have g_b8 := g_b8_
        have g_b10 := g_b10_
        have g_b11 := g_b11_
        have g_b12 := g_b12_
        have g_b13 := g_b13_
        have g_b14 := g_b14_
        have g_b15 := g_b15_
        have g_b16 := g_b16_
        have g_b9 : M2 b9 = some (mZ E 12 (upd ON j o)) := by rw [eM2]; exact mUp_self _ _ _
        have hk : kept (nol y b1 b2 b3 b4 b5 b6 b7 b8 b9 b10 b11 b12 b13 b14 b15 b16) M M2 := (by rw [eM2]; exact hk.up (nol_in 9 rfl))
        refine lv_iload_n hx hb dX10_note_50 rfl (lv_at hl 4 rfl) ?_
        refine lv_if_eq (tgt := 62) hx hb dX10_note_51 (by decide) (fun c_51 => ?_) (fun c_51 => ?_)
        · skip
          refine lv_iload hx hb dX10_note_62 (lv_at hl 0 rfl) ?_
          exact m_iret hx hb hr hlocks hM hS (Nat.le_refl _) (Nat.le_refl _) dX10_note_64 (by refine ⟨(by show _ = (if vI nn i ∧ vP pt then _ else _); rw [if_pos ⟨c_5, c_15⟩, hjc, hins]; exact hans), ?_, hk⟩; show mR E _ y b1 b2 b3 b4 b5 b6 b7 b8 b9 b10 b11 b12 b13 b14 b15 b16 (if vI nn i ∧ vP pt then _ else _); rw [if_pos ⟨c_5, c_15⟩, hjc, hins]; exact ⟨_, _, _, _, _, _, _, _, _, _, _, _, _, _, _, _, _, ⟨g_y, g_b1, g_b2, g_b3, g_b4, g_b5, g_b6, g_b7, g_b8, g_b9, g_b10, g_b11, g_b12, g_b13, g_b14, g_b15, g_b16⟩, hB, (by rw [tbs_same (by rw [htbj])]; exact hT), (hR.mono (live_up' (by rw [hins]))), (hN.up (fun q _ hqj => ⟨rfl, fun _ _ => rfl, upd_o hqj, upd_o hqj, rfl, rfl⟩) (fun q _ => ⟨id, id⟩) ⟨hSo, hKn, upd_s, upd_s, hPh, (fun hq => (by show LE j = sLev ci o pt le; rw [hLe hq]; unfold sLev; rw [if_pos (hq.resolve_left (by omega)), if_pos c_51]))⟩), hF, hc2, hc3, hc4⟩)
        · skip
          refine lv_aload_n hx hb dX10_note_54 rfl (lv_at hl 1 rfl) ?_
          refine m_get (ci := 8) (v := .ref b11) (C := RX10) (T := TX10) (N := 21) hx hb hts in_X10_note_X10 hown hE hM g_y rfl 11 (by decide) (hts (.fieldLink RX10 42 "CallWays2Model" "levels" "[D") (by decide +kernel)) (fun _ h9 => h9) rfl dX10_note_55 ?_
          refine lv_iload_n hx hb dX10_note_58 rfl (lv_at hl 2 rfl) ?_
          refine lv_iload_n hx hb dX10_note_59 rfl (lv_at hl 3 rfl) ?_
          refine lv_i2d hx hb dX10_note_60 ?_
          refine m_dast hx hb hE hM hS g_b11 hiin dX10_note_61 (fun H locs hM hS => ?_)
          rw [show vf_upd LE i.toNatClampNeg (FP.i2d pt) = vf_upd LE j (FP.i2d pt) from by rw [hjc]] at hM
          have hM : mOK E.1 (mA M sz) (mUp M2 b11 (mDb E 12 (vf_upd LE j (FP.i2d pt)))) H := hM
          obtain ⟨M3, eM3⟩ : ∃ z, z = mUp M2 b11 (mDb E 12 (vf_upd LE j (FP.i2d pt))) := ⟨_, rfl⟩
          rw [← eM3] at hM
          have g_y_ : M3 y = some (mO 8 [.ref b1, .ref b2, .ref b3, .ref b4, .ref b5, .int (nI nn), .ref b6, .ref b7, .ref b8, .ref b9, .ref b10, .ref b11, .int (nI nf), .ref b12, .ref b13, .int bd, .int st, .int fa, .ref b14, .ref b15, .ref b16]) := by rw [eM3]; exact mUp_at (nd_ne hnd 0 11 rfl rfl (by decide)) g_y
          have g_b1_ : M3 b1 = some (mI E 10 B) := by rw [eM3]; exact mUp_at (nd_ne hnd 1 11 rfl rfl (by decide)) g_b1
          have g_b2_ : M3 b2 = some (mI E 12 T) := by rw [eM3]; exact mUp_at (nd_ne hnd 2 11 rfl rfl (by decide)) g_b2
          have g_b3_ : M3 b3 = some (mI E 24 LN) := by rw [eM3]; exact mUp_at (nd_ne hnd 3 11 rfl rfl (by decide)) g_b3
          have g_b4_ : M3 b4 = some (mI E 24 SZ) := by rw [eM3]; exact mUp_at (nd_ne hnd 4 11 rfl rfl (by decide)) g_b4
          have g_b5_ : M3 b5 = some (mJ E 960 SM) := by rw [eM3]; exact mUp_at (nd_ne hnd 5 11 rfl rfl (by decide)) g_b5
          have g_b6_ : M3 b6 = some (mI E 12 SO) := by rw [eM3]; exact mUp_at (nd_ne hnd 6 11 rfl rfl (by decide)) g_b6
          have g_b7_ : M3 b7 = some (mI E 48 KN) := by rw [eM3]; exact mUp_at (nd_ne hnd 7 11 rfl rfl (by decide)) g_b7
          have g_b8_ : M3 b8 = some (mI E 12 (upd PI j pt)) := by rw [eM3]; exact mUp_at (nd_ne hnd 8 11 rfl rfl (by decide)) g_b8
          have g_b9_ : M3 b9 = some (mZ E 12 (upd ON j o)) := by rw [eM3]; exact mUp_at (nd_ne hnd 9 11 rfl rfl (by decide)) g_b9
          have g_b10_ : M3 b10 = some (mI E 12 PH) := by rw [eM3]; exact mUp_at (nd_ne hnd 10 11 rfl rfl (by decide)) g_b10
          have g_b12_ : M3 b12 = some (mI E 8 KD) := by rw [eM3]; exact mUp_at (nd_ne hnd 12 11 rfl rfl (by decide)) g_b12
          have g_b13_ : M3 b13 = some (mI E 8 NM) := by rw [eM3]; exact mUp_at (nd_ne hnd 13 11 rfl rfl (by decide)) g_b13
          have g_b14_ : M3 b14 = some (mI E 3 CT) := by rw [eM3]; exact mUp_at (nd_ne hnd 14 11 rfl rfl (by decide)) g_b14
          have g_b15_ : M3 b15 = some (mDb E 40 CM) := by rw [eM3]; exact mUp_at (nd_ne hnd 15 11 rfl rfl (by decide)) g_b15
          have g_b16_ : M3 b16 = some (mJ E 40 MV) := by rw [eM3]; exact mUp_at (nd_ne hnd 16 11 rfl rfl (by decide)) g_b16
          have g_y := g_y_
          have g_b1 := g_b1_
          have g_b2 := g_b2_
          have g_b3 := g_b3_
          have g_b4 := g_b4_
          have g_b5 := g_b5_
          have g_b6 := g_b6_
          have g_b7 := g_b7_
          have g_b8 := g_b8_
          have g_b9 := g_b9_
          have g_b10 := g_b10_
          have g_b12 := g_b12_
          have g_b13 := g_b13_
          have g_b14 := g_b14_
          have g_b15 := g_b15_
          have g_b16 := g_b16_
          have g_b11 : M3 b11 = some (mDb E 12 (vf_upd LE j (FP.i2d pt))) := by rw [eM3]; exact mUp_self _ _ _
          have hk : kept (nol y b1 b2 b3 b4 b5 b6 b7 b8 b9 b10 b11 b12 b13 b14 b15 b16) M M3 := (by rw [eM3]; exact hk.up (nol_in 11 rfl))
          refine lv_iload hx hb dX10_note_62 (lv_at hl 0 rfl) ?_
          exact m_iret hx hb hr hlocks hM hS (Nat.le_refl _) (Nat.le_refl _) dX10_note_64 (by refine ⟨(by show _ = (if vI nn i ∧ vP pt then _ else _); rw [if_pos ⟨c_5, c_15⟩, hjc, hins]; exact hans), ?_, hk⟩; show mR E _ y b1 b2 b3 b4 b5 b6 b7 b8 b9 b10 b11 b12 b13 b14 b15 b16 (if vI nn i ∧ vP pt then _ else _); rw [if_pos ⟨c_5, c_15⟩, hjc, hins]; exact ⟨_, _, _, _, _, _, _, _, _, _, _, _, _, _, _, _, _, ⟨g_y, g_b1, g_b2, g_b3, g_b4, g_b5, g_b6, g_b7, g_b8, g_b9, g_b10, g_b11, g_b12, g_b13, g_b14, g_b15, g_b16⟩, hB, (by rw [tbs_same (by rw [htbj])]; exact hT), (hR.mono (live_up' (by rw [hins]))), (hN.up (fun q _ hqj => ⟨rfl, fun _ _ => rfl, upd_o hqj, upd_o hqj, rfl, vfu_o hqj⟩) (fun q _ => ⟨id, id⟩) ⟨hSo, hKn, upd_s, upd_s, hPh, (fun hq => (by show vf_upd LE j (FP.i2d pt) j = sLev ci o pt le; rw [vfu_s]; unfold sLev; rw [if_pos (hq.resolve_left (by omega)), if_neg c_51]))⟩), hF, hc2, hc3, hc4⟩)
      · skip
        have hans : (1 : Int32) = (if on = 0 then 0 else 1) := (if_neg c_26).symm
        refine lv_iconst (v := 1) hx hb dX10_note_29 (by decide) ?_
        refine lv_goto (tgt := 34) hx hb dX10_note_30 (by decide) ?_
        refine lv_istore (lv' := [(4, .int 1), (0, .ref y), (1, .int i), (2, .int pt), (3, .int o)]) hx hb dX10_note_34 hl (by decide) rfl (fun ls hl => ?_)
        refine lv_aload_n hx hb dX10_note_36 rfl (lv_at hl 1 rfl) ?_
        refine m_get (ci := 8) (v := .ref b8) (C := RX10) (T := TX10) (N := 21) hx hb hts in_X10_note_X10 hown hE hM g_y rfl 8 (by decide) (hts (.fieldLink RX10 32 "CallWays2Model" "pitches" "[I") (by decide +kernel)) (fun _ h9 => h9) rfl dX10_note_37 ?_
        refine lv_iload_n hx hb dX10_note_40 rfl (lv_at hl 2 rfl) ?_
        refine lv_iload_n hx hb dX10_note_41 rfl (lv_at hl 3 rfl) ?_
        refine m_iast hx hb hE hM hS g_b8 hiin dX10_note_42 (fun H locs hM hS => ?_)
        rw [show upd PI i.toNatClampNeg pt = upd PI j pt from by rw [hjc]] at hM
        have hM : mOK E.1 (mA M sz) (mUp M b8 (mI E 12 (upd PI j pt))) H := hM
        obtain ⟨M4, eM4⟩ : ∃ z, z = mUp M b8 (mI E 12 (upd PI j pt)) := ⟨_, rfl⟩
        rw [← eM4] at hM
        have g_y_ : M4 y = some (mO 8 [.ref b1, .ref b2, .ref b3, .ref b4, .ref b5, .int (nI nn), .ref b6, .ref b7, .ref b8, .ref b9, .ref b10, .ref b11, .int (nI nf), .ref b12, .ref b13, .int bd, .int st, .int fa, .ref b14, .ref b15, .ref b16]) := by rw [eM4]; exact mUp_at (nd_ne hnd 0 8 rfl rfl (by decide)) g_y
        have g_b1_ : M4 b1 = some (mI E 10 B) := by rw [eM4]; exact mUp_at (nd_ne hnd 1 8 rfl rfl (by decide)) g_b1
        have g_b2_ : M4 b2 = some (mI E 12 T) := by rw [eM4]; exact mUp_at (nd_ne hnd 2 8 rfl rfl (by decide)) g_b2
        have g_b3_ : M4 b3 = some (mI E 24 LN) := by rw [eM4]; exact mUp_at (nd_ne hnd 3 8 rfl rfl (by decide)) g_b3
        have g_b4_ : M4 b4 = some (mI E 24 SZ) := by rw [eM4]; exact mUp_at (nd_ne hnd 4 8 rfl rfl (by decide)) g_b4
        have g_b5_ : M4 b5 = some (mJ E 960 SM) := by rw [eM4]; exact mUp_at (nd_ne hnd 5 8 rfl rfl (by decide)) g_b5
        have g_b6_ : M4 b6 = some (mI E 12 SO) := by rw [eM4]; exact mUp_at (nd_ne hnd 6 8 rfl rfl (by decide)) g_b6
        have g_b7_ : M4 b7 = some (mI E 48 KN) := by rw [eM4]; exact mUp_at (nd_ne hnd 7 8 rfl rfl (by decide)) g_b7
        have g_b9_ : M4 b9 = some (mZ E 12 ON) := by rw [eM4]; exact mUp_at (nd_ne hnd 9 8 rfl rfl (by decide)) g_b9
        have g_b10_ : M4 b10 = some (mI E 12 PH) := by rw [eM4]; exact mUp_at (nd_ne hnd 10 8 rfl rfl (by decide)) g_b10
        have g_b11_ : M4 b11 = some (mDb E 12 LE) := by rw [eM4]; exact mUp_at (nd_ne hnd 11 8 rfl rfl (by decide)) g_b11
        have g_b12_ : M4 b12 = some (mI E 8 KD) := by rw [eM4]; exact mUp_at (nd_ne hnd 12 8 rfl rfl (by decide)) g_b12
        have g_b13_ : M4 b13 = some (mI E 8 NM) := by rw [eM4]; exact mUp_at (nd_ne hnd 13 8 rfl rfl (by decide)) g_b13
        have g_b14_ : M4 b14 = some (mI E 3 CT) := by rw [eM4]; exact mUp_at (nd_ne hnd 14 8 rfl rfl (by decide)) g_b14
        have g_b15_ : M4 b15 = some (mDb E 40 CM) := by rw [eM4]; exact mUp_at (nd_ne hnd 15 8 rfl rfl (by decide)) g_b15
        have g_b16_ : M4 b16 = some (mJ E 40 MV) := by rw [eM4]; exact mUp_at (nd_ne hnd 16 8 rfl rfl (by decide)) g_b16
        have g_y := g_y_
        have g_b1 := g_b1_
        have g_b2 := g_b2_
        have g_b3 := g_b3_
        have g_b4 := g_b4_
        have g_b5 := g_b5_
        have g_b6 := g_b6_
        have g_b7 := g_b7_
        have g_b9 := g_b9_
        have g_b10 := g_b10_
        have g_b11 := g_b11_
        have g_b12 := g_b12_
        have g_b13 := g_b13_
        have g_b14 := g_b14_
        have g_b15 := g_b15_
        have g_b16 := g_b16_
        have g_b8 : M4 b8 = some (mI E 12 (upd PI j pt)) := by rw [eM4]; exact mUp_self _ _ _
        have hk : kept (nol y b1 b2 b3 b4 b5 b6 b7 b8 b9 b10 b11 b12 b13 b14 b15 b16) M M4 := (by rw [eM4]; exact hk.up (nol_in 8 rfl))
        refine lv_aload_n hx hb dX10_note_43 rfl (lv_at hl 1 rfl) ?_
        refine m_get (ci := 8) (v := .ref b9) (C := RX10) (T := TX10) (N := 21) hx hb hts in_X10_note_X10 hown hE hM g_y rfl 9 (by decide) (hts (.fieldLink RX10 35 "CallWays2Model" "isOn" "[Z") (by decide +kernel)) (fun _ h9 => h9) rfl dX10_note_44 ?_
        refine lv_iload_n hx hb dX10_note_47 rfl (lv_at hl 2 rfl) ?_
        refine lv_iload_n hx hb dX10_note_48 rfl (lv_at hl 4 rfl) ?_
        refine m_zast hx hb hE hM hS g_b9 hiin dX10_note_49 (fun H locs hM hS => ?_)
        rw [show upd ON i.toNatClampNeg (vp_nar .boolean o) = upd ON j o from by rw [hjc, nar_b ho]] at hM
        have hM : mOK E.1 (mA M sz) (mUp M4 b9 (mZ E 12 (upd ON j o))) H := hM
        obtain ⟨M5, eM5⟩ : ∃ z, z = mUp M4 b9 (mZ E 12 (upd ON j o)) := ⟨_, rfl⟩
        rw [← eM5] at hM
        have g_y_ : M5 y = some (mO 8 [.ref b1, .ref b2, .ref b3, .ref b4, .ref b5, .int (nI nn), .ref b6, .ref b7, .ref b8, .ref b9, .ref b10, .ref b11, .int (nI nf), .ref b12, .ref b13, .int bd, .int st, .int fa, .ref b14, .ref b15, .ref b16]) := by rw [eM5]; exact mUp_at (nd_ne hnd 0 9 rfl rfl (by decide)) g_y
        have g_b1_ : M5 b1 = some (mI E 10 B) := by rw [eM5]; exact mUp_at (nd_ne hnd 1 9 rfl rfl (by decide)) g_b1
        have g_b2_ : M5 b2 = some (mI E 12 T) := by rw [eM5]; exact mUp_at (nd_ne hnd 2 9 rfl rfl (by decide)) g_b2
        have g_b3_ : M5 b3 = some (mI E 24 LN) := by rw [eM5]; exact mUp_at (nd_ne hnd 3 9 rfl rfl (by decide)) g_b3
        have g_b4_ : M5 b4 = some (mI E 24 SZ) := by rw [eM5]; exact mUp_at (nd_ne hnd 4 9 rfl rfl (by decide)) g_b4
        have g_b5_ : M5 b5 = some (mJ E 960 SM) := by rw [eM5]; exact mUp_at (nd_ne hnd 5 9 rfl rfl (by decide)) g_b5
        have g_b6_ : M5 b6 = some (mI E 12 SO) := by rw [eM5]; exact mUp_at (nd_ne hnd 6 9 rfl rfl (by decide)) g_b6
        have g_b7_ : M5 b7 = some (mI E 48 KN) := by rw [eM5]; exact mUp_at (nd_ne hnd 7 9 rfl rfl (by decide)) g_b7
        have g_b8_ : M5 b8 = some (mI E 12 (upd PI j pt)) := by rw [eM5]; exact mUp_at (nd_ne hnd 8 9 rfl rfl (by decide)) g_b8
        have g_b10_ : M5 b10 = some (mI E 12 PH) := by rw [eM5]; exact mUp_at (nd_ne hnd 10 9 rfl rfl (by decide)) g_b10
        have g_b11_ : M5 b11 = some (mDb E 12 LE) := by rw [eM5]; exact mUp_at (nd_ne hnd 11 9 rfl rfl (by decide)) g_b11
        have g_b12_ : M5 b12 = some (mI E 8 KD) := by rw [eM5]; exact mUp_at (nd_ne hnd 12 9 rfl rfl (by decide)) g_b12
        have g_b13_ : M5 b13 = some (mI E 8 NM) := by rw [eM5]; exact mUp_at (nd_ne hnd 13 9 rfl rfl (by decide)) g_b13
        have g_b14_ : M5 b14 = some (mI E 3 CT) := by rw [eM5]; exact mUp_at (nd_ne hnd 14 9 rfl rfl (by decide)) g_b14
        have g_b15_ : M5 b15 = some (mDb E 40 CM) := by rw [eM5]; exact mUp_at (nd_ne hnd 15 9 rfl rfl (by decide)) g_b15
        have g_b16_ : M5 b16 = some (mJ E 40 MV) := by rw [eM5]; exact mUp_at (nd_ne hnd 16 9 rfl rfl (by decide)) g_b16
        have g_y := g_y_
        have g_b1 := g_b1_
        have g_b2 := g_b2_
        have g_b3 := g_b3_
        have g_b4 := g_b4_
        have g_b5 := g_b5_
        have g_b6 := g_b6_
        have g_b7 := g_b7_
        have g_b8 := g_b8_
        have g_b10 := g_b10_
        have g_b11 := g_b11_
        have g_b12 := g_b12_
        have g_b13 := g_b13_
        have g_b14 := g_b14_
        have g_b15 := g_b15_
        have g_b16 := g_b16_
        have g_b9 : M5 b9 = some (mZ E 12 (upd ON j o)) := by rw [eM5]; exact mUp_self _ _ _
        have hk : kept (nol y b1 b2 b3 b4 b5 b6 b7 b8 b9 b10 b11 b12 b13 b14 b15 b16) M M5 := (by rw [eM5]; exact hk.up (nol_in 9 rfl))
        refine lv_iload_n hx hb dX10_note_50 rfl (lv_at hl 4 rfl) ?_
        refine lv_if_eq (tgt := 62) hx hb dX10_note_51 (by decide) (fun c_51 => ?_) (fun c_51 => ?_)
        · skip
          refine lv_iload hx hb dX10_note_62 (lv_at hl 0 rfl) ?_
          exact m_iret hx hb hr hlocks hM hS (Nat.le_refl _) (Nat.le_refl _) dX10_note_64 (by refine ⟨(by show _ = (if vI nn i ∧ vP pt then _ else _); rw [if_pos ⟨c_5, c_15⟩, hjc, hins]; exact hans), ?_, hk⟩; show mR E _ y b1 b2 b3 b4 b5 b6 b7 b8 b9 b10 b11 b12 b13 b14 b15 b16 (if vI nn i ∧ vP pt then _ else _); rw [if_pos ⟨c_5, c_15⟩, hjc, hins]; exact ⟨_, _, _, _, _, _, _, _, _, _, _, _, _, _, _, _, _, ⟨g_y, g_b1, g_b2, g_b3, g_b4, g_b5, g_b6, g_b7, g_b8, g_b9, g_b10, g_b11, g_b12, g_b13, g_b14, g_b15, g_b16⟩, hB, (by rw [tbs_same (by rw [htbj])]; exact hT), (hR.mono (live_up' (by rw [hins]))), (hN.up (fun q _ hqj => ⟨rfl, fun _ _ => rfl, upd_o hqj, upd_o hqj, rfl, rfl⟩) (fun q _ => ⟨id, id⟩) ⟨hSo, hKn, upd_s, upd_s, hPh, (fun hq => (by show LE j = sLev ci o pt le; rw [hLe hq]; unfold sLev; rw [if_pos (hq.resolve_left (by omega)), if_pos c_51]))⟩), hF, hc2, hc3, hc4⟩)
        · skip
          refine lv_aload_n hx hb dX10_note_54 rfl (lv_at hl 1 rfl) ?_
          refine m_get (ci := 8) (v := .ref b11) (C := RX10) (T := TX10) (N := 21) hx hb hts in_X10_note_X10 hown hE hM g_y rfl 11 (by decide) (hts (.fieldLink RX10 42 "CallWays2Model" "levels" "[D") (by decide +kernel)) (fun _ h9 => h9) rfl dX10_note_55 ?_
          refine lv_iload_n hx hb dX10_note_58 rfl (lv_at hl 2 rfl) ?_
          refine lv_iload_n hx hb dX10_note_59 rfl (lv_at hl 3 rfl) ?_
          refine lv_i2d hx hb dX10_note_60 ?_
          refine m_dast hx hb hE hM hS g_b11 hiin dX10_note_61 (fun H locs hM hS => ?_)
          rw [show vf_upd LE i.toNatClampNeg (FP.i2d pt) = vf_upd LE j (FP.i2d pt) from by rw [hjc]] at hM
          have hM : mOK E.1 (mA M sz) (mUp M5 b11 (mDb E 12 (vf_upd LE j (FP.i2d pt)))) H := hM
          obtain ⟨M6, eM6⟩ : ∃ z, z = mUp M5 b11 (mDb E 12 (vf_upd LE j (FP.i2d pt))) := ⟨_, rfl⟩
          rw [← eM6] at hM
          have g_y_ : M6 y = some (mO 8 [.ref b1, .ref b2, .ref b3, .ref b4, .ref b5, .int (nI nn), .ref b6, .ref b7, .ref b8, .ref b9, .ref b10, .ref b11, .int (nI nf), .ref b12, .ref b13, .int bd, .int st, .int fa, .ref b14, .ref b15, .ref b16]) := by rw [eM6]; exact mUp_at (nd_ne hnd 0 11 rfl rfl (by decide)) g_y
          have g_b1_ : M6 b1 = some (mI E 10 B) := by rw [eM6]; exact mUp_at (nd_ne hnd 1 11 rfl rfl (by decide)) g_b1
          have g_b2_ : M6 b2 = some (mI E 12 T) := by rw [eM6]; exact mUp_at (nd_ne hnd 2 11 rfl rfl (by decide)) g_b2
          have g_b3_ : M6 b3 = some (mI E 24 LN) := by rw [eM6]; exact mUp_at (nd_ne hnd 3 11 rfl rfl (by decide)) g_b3
          have g_b4_ : M6 b4 = some (mI E 24 SZ) := by rw [eM6]; exact mUp_at (nd_ne hnd 4 11 rfl rfl (by decide)) g_b4
          have g_b5_ : M6 b5 = some (mJ E 960 SM) := by rw [eM6]; exact mUp_at (nd_ne hnd 5 11 rfl rfl (by decide)) g_b5
          have g_b6_ : M6 b6 = some (mI E 12 SO) := by rw [eM6]; exact mUp_at (nd_ne hnd 6 11 rfl rfl (by decide)) g_b6
          have g_b7_ : M6 b7 = some (mI E 48 KN) := by rw [eM6]; exact mUp_at (nd_ne hnd 7 11 rfl rfl (by decide)) g_b7
          have g_b8_ : M6 b8 = some (mI E 12 (upd PI j pt)) := by rw [eM6]; exact mUp_at (nd_ne hnd 8 11 rfl rfl (by decide)) g_b8
          have g_b9_ : M6 b9 = some (mZ E 12 (upd ON j o)) := by rw [eM6]; exact mUp_at (nd_ne hnd 9 11 rfl rfl (by decide)) g_b9
          have g_b10_ : M6 b10 = some (mI E 12 PH) := by rw [eM6]; exact mUp_at (nd_ne hnd 10 11 rfl rfl (by decide)) g_b10
          have g_b12_ : M6 b12 = some (mI E 8 KD) := by rw [eM6]; exact mUp_at (nd_ne hnd 12 11 rfl rfl (by decide)) g_b12
          have g_b13_ : M6 b13 = some (mI E 8 NM) := by rw [eM6]; exact mUp_at (nd_ne hnd 13 11 rfl rfl (by decide)) g_b13
          have g_b14_ : M6 b14 = some (mI E 3 CT) := by rw [eM6]; exact mUp_at (nd_ne hnd 14 11 rfl rfl (by decide)) g_b14
          have g_b15_ : M6 b15 = some (mDb E 40 CM) := by rw [eM6]; exact mUp_at (nd_ne hnd 15 11 rfl rfl (by decide)) g_b15
          have g_b16_ : M6 b16 = some (mJ E 40 MV) := by rw [eM6]; exact mUp_at (nd_ne hnd 16 11 rfl rfl (by decide)) g_b16
          have g_y := g_y_
          have g_b1 := g_b1_
          have g_b2 := g_b2_
          have g_b3 := g_b3_
          have g_b4 := g_b4_
          have g_b5 := g_b5_
          have g_b6 := g_b6_
          have g_b7 := g_b7_
          have g_b8 := g_b8_
          have g_b9 := g_b9_
          have g_b10 := g_b10_
          have g_b12 := g_b12_
          have g_b13 := g_b13_
          have g_b14 := g_b14_
          have g_b15 := g_b15_
          have g_b16 := g_b16_
          have g_b11 : M6 b11 = some (mDb E 12 (vf_upd LE j (FP.i2d pt))) := by rw [eM6]; exact mUp_self _ _ _
          have hk : kept (nol y b1 b2 b3 b4 b5 b6 b7 b8 b9 b10 b11 b12 b13 b14 b15 b16) M M6 := (by rw [eM6]; exact hk.up (nol_in 11 rfl))
          refine lv_iload hx hb dX10_note_62 (lv_at hl 0 rfl) ?_
          exact m_iret hx hb hr hlocks hM hS (Nat.le_refl _) (Nat.le_refl _) dX10_note_64 (by refine ⟨(by show _ = (if vI nn i ∧ vP pt then _ else _); rw [if_pos ⟨c_5, c_15⟩, hjc, hins]; exact hans), ?_, hk⟩; show mR E _ y b1 b2 b3 b4 b5 b6 b7 b8 b9 b10 b11 b12 b13 b14 b15 b16 (if vI nn i ∧ vP pt then _ else _); rw [if_pos ⟨c_5, c_15⟩, hjc, hins]; exact ⟨_, _, _, _, _, _, _, _, _, _, _, _, _, _, _, _, _, ⟨g_y, g_b1, g_b2, g_b3, g_b4, g_b5, g_b6, g_b7, g_b8, g_b9, g_b10, g_b11, g_b12, g_b13, g_b14, g_b15, g_b16⟩, hB, (by rw [tbs_same (by rw [htbj])]; exact hT), (hR.mono (live_up' (by rw [hins]))), (hN.up (fun q _ hqj => ⟨rfl, fun _ _ => rfl, upd_o hqj, upd_o hqj, rfl, vfu_o hqj⟩) (fun q _ => ⟨id, id⟩) ⟨hSo, hKn, upd_s, upd_s, hPh, (fun hq => (by show vf_upd LE j (FP.i2d pt) j = sLev ci o pt le; rw [vfu_s]; unfold sLev; rw [if_pos (hq.resolve_left (by omega)), if_neg c_51]))⟩), hF, hc2, hc3, hc4⟩)
    · skip
      rw [bI_eq] at c_15
      have hz : ¬ (vI nn i ∧ vP pt) := na2 c_15
      refine lv_iconst (v := -1) hx hb dX10_note_18 (by decide) ?_
      exact m_iret hx hb hr hlocks hM hS (Nat.le_refl _) (Nat.le_refl _) dX10_note_19 (by refine ⟨(if_neg hz).symm, ?_, hk⟩; show mR E _ y b1 b2 b3 b4 b5 b6 b7 b8 b9 b10 b11 b12 b13 b14 b15 b16 (if vI nn i ∧ vP pt then _ else _); rw [if_neg hz]; exact hC0)
theorem in_X10_knob_X10 : ∀ w ∈ wsX100, w ∈ wsX10_knob := by decide +kernel
set_option maxHeartbeats 4000000 in
set_option maxRecDepth 100000 in
theorem c_X10_knob (l : Launch) (E : mEnv) (M : mMem) (sz : Nat) (y b1 b2 b3 b4 b5 b6 b7 b8 b9 b10 b11 b12 b13 b14 b15 b16 nn nf : Nat) (ins : Nat → sIn) (fn : Nat → Int32 × Int32) (bk : Nat → Option Nat) (rw : Nat → sRw) (bd st c2 c3 c4 : Int32) (hV : Inv (nn, ins, nf, fn, bk, rw, bd, st, c2, c3, c4)) (hC : mR E M y b1 b2 b3 b4 b5 b6 b7 b8 b9 b10 b11 b12 b13 b14 b15 b16 (nn, ins, nf, fn, bk, rw, bd, st, c2, c3, c4)) (hnd : [y, b1, b2, b3, b4, b5, b6, b7, b8, b9, b10, b11, b12, b13, b14, b15, b16].Nodup) (i k v : Int32)    : Met l yX10_knob wsX10_knob ({ frames := 2, cells := 0, slots := 0, locals := 43 }) (mPre E M sz [.ref y, .int i, .int k, .int v]) (mQi E M sz (fun r u => r = aKnob (nn, ins, nf, fn, bk, rw, bd, st, c2, c3, c4) i k v ∧ mR E u y b1 b2 b3 b4 b5 b6 b7 b8 b9 b10 b11 b12 b13 b14 b15 b16 (nKnob (nn, ins, nf, fn, bk, rw, bd, st, c2, c3, c4) i k v) ∧ kept (nol y b1 b2 b3 b4 b5 b6 b7 b8 b9 b10 b11 b12 b13 b14 b15 b16) M u)) (0) (0) (mA M sz) := by
  refine m_met [.ref y, .int i, .int k, .int v] (by decide) rfl (Nat.le_of_ble_eq_true rfl) ?_
  intro p e s m below meth c ls H eH hx hb hr hts hown hlocks hnm hml hsz hE hM hS hA hl
  have hl : lv_has ls 5 [(0, .ref y), (1, .int i), (2, .int k), (3, .int v)] := hl
  have hC0 := hC
  obtain ⟨fa, B, T, LN, SZ, SM, SO, KN, PI, ON, PH, LE, KD, NM, CT, CM, MV, ⟨g_y, g_b1, g_b2, g_b3, g_b4, g_b5, g_b6, g_b7, g_b8, g_b9, g_b10, g_b11, g_b12, g_b13, g_b14, g_b15, g_b16⟩, hB, hT, hR, hN, hF, hc2, hc3, hc4⟩ := hC
  have hiK := hV.insK
  have h24t := hV.tb24
  have h40 := hV.n40
  obtain ⟨hnn, hnf, hvI, hvD, hv24, hvR, hvF⟩ := id hV
  have h24 : ∀ k, k < 10 → ∀ r, bk k = some r → r < 24 := fun k hk r hr => hv24 r (Or.inl ⟨k, hk, hr⟩)
  have hk : kept (nol y b1 b2 b3 b4 b5 b6 b7 b8 b9 b10 b11 b12 b13 b14 b15 b16) M M := kept.rf
  refine lv_aload_n hx hb dX10_knob_0 rfl (lv_at hl 0 rfl) ?_
  refine lv_iload_n hx hb dX10_knob_1 rfl (lv_at hl 1 rfl) ?_
  refine m_calli (va_runV (As := [.int i]) (rest := []) ⟨hx, hb, hml, hown, hts⟩ (c_X10_isInst l E M H.size y b1 b2 b3 b4 b5 b6 b7 b8 b9 b10 b11 b12 b13 b14 b15 b16 (nI nf) bd st fa nn hnn i g_y) (cwV 1 hts gX10_knob_X10_isInstrument rfl rfl rfl (by decide +kernel) ⟨Nat.le_of_ble_eq_true rfl, Nat.le_of_ble_eq_true rfl⟩) (m_preV hE hM g_y rfl) rfl rfl hl.1 rfl (lv_room (Nat.le_of_ble_eq_true rfl)) dX10_knob_2 ⟨Nat.le_of_ble_eq_true rfl, Nat.le_of_ble_eq_true rfl⟩) hM hS hA (fun r0 u H locs hw hM hS => ?_)
  obtain ⟨e_r0, eu⟩ := hw
  rw [eu] at hM
  subst e_r0
  refine lv_if_eq (tgt := 17) hx hb dX10_knob_5 (by decide) (fun c_5 => ?_) (fun c_5 => ?_)
  · skip
    rw [bI_eq] at c_5
    have hz : ¬ (vI nn i ∧ vK k) := na1 c_5
    refine lv_aload_n hx hb dX10_knob_17 rfl (lv_at hl 0 rfl) ?_
    refine lv_iconst (v := -1) hx hb dX10_knob_18 (by decide) ?_
    refine m_put (ci := 8) (v := .int (-1)) (ty := .int) (C := RX10) (T := TX10) (N := 21) hx hb hts in_X10_knob_X10 tyX10 tyX10_ok nmX10 hown hE hM hS g_y rfl 16 (by decide) (hts (.fieldLink RX10 72 "CallWays2Model" "stateNow" "I") (by decide +kernel)) (fun _ h9 => h9) rfl (by decide +kernel) rfl rfl (Nat.le_of_ble_eq_true rfl) dX10_knob_19 (fun H locs hM hS => ?_)
    have hM : mOK E.1 (mA M sz) (mUp M y (mO 8 [.ref b1, .ref b2, .ref b3, .ref b4, .ref b5, .int (nI nn), .ref b6, .ref b7, .ref b8, .ref b9, .ref b10, .ref b11, .int (nI nf), .ref b12, .ref b13, .int bd, .int (-1), .int fa, .ref b14, .ref b15, .ref b16])) H := hM
    obtain ⟨M1, eM1⟩ : ∃ z, z = mUp M y (mO 8 [.ref b1, .ref b2, .ref b3, .ref b4, .ref b5, .int (nI nn), .ref b6, .ref b7, .ref b8, .ref b9, .ref b10, .ref b11, .int (nI nf), .ref b12, .ref b13, .int bd, .int (-1), .int fa, .ref b14, .ref b15, .ref b16]) := ⟨_, rfl⟩
    rw [← eM1] at hM
    have g_b1_ : M1 b1 = some (mI E 10 B) := by rw [eM1]; exact mUp_at (nd_ne hnd 1 0 rfl rfl (by decide)) g_b1
    have g_b2_ : M1 b2 = some (mI E 12 T) := by rw [eM1]; exact mUp_at (nd_ne hnd 2 0 rfl rfl (by decide)) g_b2
    have g_b3_ : M1 b3 = some (mI E 24 LN) := by rw [eM1]; exact mUp_at (nd_ne hnd 3 0 rfl rfl (by decide)) g_b3
    have g_b4_ : M1 b4 = some (mI E 24 SZ) := by rw [eM1]; exact mUp_at (nd_ne hnd 4 0 rfl rfl (by decide)) g_b4
    have g_b5_ : M1 b5 = some (mJ E 960 SM) := by rw [eM1]; exact mUp_at (nd_ne hnd 5 0 rfl rfl (by decide)) g_b5
    have g_b6_ : M1 b6 = some (mI E 12 SO) := by rw [eM1]; exact mUp_at (nd_ne hnd 6 0 rfl rfl (by decide)) g_b6
    have g_b7_ : M1 b7 = some (mI E 48 KN) := by rw [eM1]; exact mUp_at (nd_ne hnd 7 0 rfl rfl (by decide)) g_b7
    have g_b8_ : M1 b8 = some (mI E 12 PI) := by rw [eM1]; exact mUp_at (nd_ne hnd 8 0 rfl rfl (by decide)) g_b8
    have g_b9_ : M1 b9 = some (mZ E 12 ON) := by rw [eM1]; exact mUp_at (nd_ne hnd 9 0 rfl rfl (by decide)) g_b9
    have g_b10_ : M1 b10 = some (mI E 12 PH) := by rw [eM1]; exact mUp_at (nd_ne hnd 10 0 rfl rfl (by decide)) g_b10
    have g_b11_ : M1 b11 = some (mDb E 12 LE) := by rw [eM1]; exact mUp_at (nd_ne hnd 11 0 rfl rfl (by decide)) g_b11
    have g_b12_ : M1 b12 = some (mI E 8 KD) := by rw [eM1]; exact mUp_at (nd_ne hnd 12 0 rfl rfl (by decide)) g_b12
    have g_b13_ : M1 b13 = some (mI E 8 NM) := by rw [eM1]; exact mUp_at (nd_ne hnd 13 0 rfl rfl (by decide)) g_b13
    have g_b14_ : M1 b14 = some (mI E 3 CT) := by rw [eM1]; exact mUp_at (nd_ne hnd 14 0 rfl rfl (by decide)) g_b14
    have g_b15_ : M1 b15 = some (mDb E 40 CM) := by rw [eM1]; exact mUp_at (nd_ne hnd 15 0 rfl rfl (by decide)) g_b15
    have g_b16_ : M1 b16 = some (mJ E 40 MV) := by rw [eM1]; exact mUp_at (nd_ne hnd 16 0 rfl rfl (by decide)) g_b16
    have g_b1 := g_b1_
    have g_b2 := g_b2_
    have g_b3 := g_b3_
    have g_b4 := g_b4_
    have g_b5 := g_b5_
    have g_b6 := g_b6_
    have g_b7 := g_b7_
    have g_b8 := g_b8_
    have g_b9 := g_b9_
    have g_b10 := g_b10_
    have g_b11 := g_b11_
    have g_b12 := g_b12_
    have g_b13 := g_b13_
    have g_b14 := g_b14_
    have g_b15 := g_b15_
    have g_b16 := g_b16_
    have g_y : M1 y = some (mO 8 [.ref b1, .ref b2, .ref b3, .ref b4, .ref b5, .int (nI nn), .ref b6, .ref b7, .ref b8, .ref b9, .ref b10, .ref b11, .int (nI nf), .ref b12, .ref b13, .int bd, .int (-1), .int fa, .ref b14, .ref b15, .ref b16]) := by rw [eM1]; exact mUp_self _ _ _
    have hk : kept (nol y b1 b2 b3 b4 b5 b6 b7 b8 b9 b10 b11 b12 b13 b14 b15 b16) M M1 := (by rw [eM1]; exact hk.up (nol_in 0 rfl))
    refine lv_iconst (v := 0) hx hb dX10_knob_22 (by decide) ?_
    exact m_iret hx hb hr hlocks hM hS (Nat.le_refl _) (Nat.le_refl _) dX10_knob_23 (by refine ⟨(if_neg hz).symm, ?_, hk⟩; show mR E _ y b1 b2 b3 b4 b5 b6 b7 b8 b9 b10 b11 b12 b13 b14 b15 b16 (if vI nn i ∧ vK k then _ else _); rw [if_neg hz]; exact ⟨_, _, _, _, _, _, _, _, _, _, _, _, _, _, _, _, _, ⟨g_y, g_b1, g_b2, g_b3, g_b4, g_b5, g_b6, g_b7, g_b8, g_b9, g_b10, g_b11, g_b12, g_b13, g_b14, g_b15, g_b16⟩, hB, hT, hR, hN, hF, hc2, hc3, hc4⟩)
  · skip
    rw [bI_ne] at c_5
    obtain ⟨j, hj, hij, hjc⟩ := vI_ix c_5 hnn
    rcases hins : ins j with ⟨ci, kf, pi, on, ph, le, tb⟩
    obtain ⟨hSo, hKn, hPi, hOn, hPh, hLe⟩ := hN j (by omega) _ _ _ _ _ _ _ hins
    obtain ⟨hci, hle, hon⟩ := hvI j hj _ _ _ _ _ _ _ hins
    have hiin : vp_in i 12 := (by rw [hij]; exact vp_in_nI (by omega) (by decide))
    have htbj : tbs ins j = tb := (by show (ins j).2.2.2.2.2.2 = tb; rw [hins])
    refine lv_iload_n hx hb dX10_knob_8 rfl (lv_at hl 2 rfl) ?_
    refine lv_iconst (v := 0) hx hb dX10_knob_9 (by decide) ?_
    refine lv_iconst (v := 3) hx hb dX10_knob_10 (by decide) ?_
    refine m_calli (va_runS (As := [.int k, .int 0, .int 3]) (rest := []) ⟨hx, hb, hml, hown, hts⟩ (c_X10_in l E M H.size k 0 3) (va_cwS 3 hts gX10_knob_X10_in rfl rfl rfl (by decide +kernel) ⟨Nat.le_of_ble_eq_true rfl, Nat.le_of_ble_eq_true rfl⟩) (m_preS hE hM) rfl rfl hl.1 rfl (lv_room (Nat.le_of_ble_eq_true rfl)) dX10_knob_11 ⟨Nat.le_of_ble_eq_true rfl, Nat.le_of_ble_eq_true rfl⟩) hM hS hA (fun r0 u H locs hw hM hS => ?_)
    obtain ⟨e_r0, eu⟩ := hw
    rw [eu] at hM
    rw [bI_congr (in_3)] at e_r0
    subst e_r0
    refine lv_if_ne (tgt := 24) hx hb dX10_knob_14 (by decide) (fun c_14 => ?_) (fun c_14 => ?_)
    · skip
      rw [bI_ne] at c_14
      obtain ⟨kk, hkk, hkj, hkc⟩ := vk_ix c_14
      have hix : (4 : Int32) * i + k = nI (4 * j + kk) := (by rw [hij, hkj]; exact k4 j kk)
      refine lv_aload_n hx hb dX10_knob_24 rfl (lv_at hl 0 rfl) ?_
      refine lv_iconst (v := 0) hx hb dX10_knob_25 (by decide) ?_
      refine m_put (ci := 8) (v := .int 0) (ty := .int) (C := RX10) (T := TX10) (N := 21) hx hb hts in_X10_knob_X10 tyX10 tyX10_ok nmX10 hown hE hM hS g_y rfl 16 (by decide) (hts (.fieldLink RX10 72 "CallWays2Model" "stateNow" "I") (by decide +kernel)) (fun _ h9 => h9) rfl (by decide +kernel) rfl rfl (Nat.le_of_ble_eq_true rfl) dX10_knob_26 (fun H locs hM hS => ?_)
      have hM : mOK E.1 (mA M sz) (mUp M y (mO 8 [.ref b1, .ref b2, .ref b3, .ref b4, .ref b5, .int (nI nn), .ref b6, .ref b7, .ref b8, .ref b9, .ref b10, .ref b11, .int (nI nf), .ref b12, .ref b13, .int bd, .int 0, .int fa, .ref b14, .ref b15, .ref b16])) H := hM
      obtain ⟨M2, eM2⟩ : ∃ z, z = mUp M y (mO 8 [.ref b1, .ref b2, .ref b3, .ref b4, .ref b5, .int (nI nn), .ref b6, .ref b7, .ref b8, .ref b9, .ref b10, .ref b11, .int (nI nf), .ref b12, .ref b13, .int bd, .int 0, .int fa, .ref b14, .ref b15, .ref b16]) := ⟨_, rfl⟩
      rw [← eM2] at hM
      have g_b1_ : M2 b1 = some (mI E 10 B) := by rw [eM2]; exact mUp_at (nd_ne hnd 1 0 rfl rfl (by decide)) g_b1
      have g_b2_ : M2 b2 = some (mI E 12 T) := by rw [eM2]; exact mUp_at (nd_ne hnd 2 0 rfl rfl (by decide)) g_b2
      have g_b3_ : M2 b3 = some (mI E 24 LN) := by rw [eM2]; exact mUp_at (nd_ne hnd 3 0 rfl rfl (by decide)) g_b3
      have g_b4_ : M2 b4 = some (mI E 24 SZ) := by rw [eM2]; exact mUp_at (nd_ne hnd 4 0 rfl rfl (by decide)) g_b4
      have g_b5_ : M2 b5 = some (mJ E 960 SM) := by rw [eM2]; exact mUp_at (nd_ne hnd 5 0 rfl rfl (by decide)) g_b5
      have g_b6_ : M2 b6 = some (mI E 12 SO) := by rw [eM2]; exact mUp_at (nd_ne hnd 6 0 rfl rfl (by decide)) g_b6
      have g_b7_ : M2 b7 = some (mI E 48 KN) := by rw [eM2]; exact mUp_at (nd_ne hnd 7 0 rfl rfl (by decide)) g_b7
      have g_b8_ : M2 b8 = some (mI E 12 PI) := by rw [eM2]; exact mUp_at (nd_ne hnd 8 0 rfl rfl (by decide)) g_b8
      have g_b9_ : M2 b9 = some (mZ E 12 ON) := by rw [eM2]; exact mUp_at (nd_ne hnd 9 0 rfl rfl (by decide)) g_b9
      have g_b10_ : M2 b10 = some (mI E 12 PH) := by rw [eM2]; exact mUp_at (nd_ne hnd 10 0 rfl rfl (by decide)) g_b10
      have g_b11_ : M2 b11 = some (mDb E 12 LE) := by rw [eM2]; exact mUp_at (nd_ne hnd 11 0 rfl rfl (by decide)) g_b11
      have g_b12_ : M2 b12 = some (mI E 8 KD) := by rw [eM2]; exact mUp_at (nd_ne hnd 12 0 rfl rfl (by decide)) g_b12
      have g_b13_ : M2 b13 = some (mI E 8 NM) := by rw [eM2]; exact mUp_at (nd_ne hnd 13 0 rfl rfl (by decide)) g_b13
      have g_b14_ : M2 b14 = some (mI E 3 CT) := by rw [eM2]; exact mUp_at (nd_ne hnd 14 0 rfl rfl (by decide)) g_b14
      have g_b15_ : M2 b15 = some (mDb E 40 CM) := by rw [eM2]; exact mUp_at (nd_ne hnd 15 0 rfl rfl (by decide)) g_b15
      have g_b16_ : M2 b16 = some (mJ E 40 MV) := by rw [eM2]; exact mUp_at (nd_ne hnd 16 0 rfl rfl (by decide)) g_b16
      have g_b1 := g_b1_
      have g_b2 := g_b2_
      have g_b3 := g_b3_
      have g_b4 := g_b4_
      have g_b5 := g_b5_
      have g_b6 := g_b6_
      have g_b7 := g_b7_
      have g_b8 := g_b8_
      have g_b9 := g_b9_
      have g_b10 := g_b10_
      have g_b11 := g_b11_
      have g_b12 := g_b12_
      have g_b13 := g_b13_
      have g_b14 := g_b14_
      have g_b15 := g_b15_
      have g_b16 := g_b16_
      have g_y : M2 y = some (mO 8 [.ref b1, .ref b2, .ref b3, .ref b4, .ref b5, .int (nI nn), .ref b6, .ref b7, .ref b8, .ref b9, .ref b10, .ref b11, .int (nI nf), .ref b12, .ref b13, .int bd, .int 0, .int fa, .ref b14, .ref b15, .ref b16]) := by rw [eM2]; exact mUp_self _ _ _
      have hk : kept (nol y b1 b2 b3 b4 b5 b6 b7 b8 b9 b10 b11 b12 b13 b14 b15 b16) M M2 := (by rw [eM2]; exact hk.up (nol_in 0 rfl))
      refine lv_aload_n hx hb dX10_knob_29 rfl (lv_at hl 0 rfl) ?_
      refine m_get (ci := 8) (v := .ref b7) (C := RX10) (T := TX10) (N := 21) hx hb hts in_X10_knob_X10 hown hE hM g_y rfl 7 (by decide) (hts (.fieldLink RX10 29 "CallWays2Model" "knobs" "[I") (by decide +kernel)) (fun _ h9 => h9) rfl dX10_knob_30 ?_
      refine lv_iconst (v := 4) hx hb dX10_knob_33 (by decide) ?_
      refine lv_iload_n hx hb dX10_knob_34 rfl (lv_at hl 1 rfl) ?_
      refine lv_imul hx hb dX10_knob_35 ?_
      refine lv_iload_n hx hb dX10_knob_36 rfl (lv_at hl 2 rfl) ?_
      refine lv_iadd hx hb dX10_knob_37 ?_
      rw [hix]
      refine m_iald hx hb hE hM g_b7 (in_k4 (by omega) hkk) dX10_knob_38 ?_
      rw [show KN (nI (4 * j + kk)).toNatClampNeg = kf kk from by rw [nI_clamp (by omega)]; exact hKn kk hkk]
      refine lv_istore (lv' := [(4, .int (kf kk)), (0, .ref y), (1, .int i), (2, .int k), (3, .int v)]) hx hb dX10_knob_39 hl (by decide) rfl (fun ls hl => ?_)
      refine lv_aload_n hx hb dX10_knob_41 rfl (lv_at hl 1 rfl) ?_
      refine m_get (ci := 8) (v := .ref b7) (C := RX10) (T := TX10) (N := 21) hx hb hts in_X10_knob_X10 hown hE hM g_y rfl 7 (by decide) (hts (.fieldLink RX10 29 "CallWays2Model" "knobs" "[I") (by decide +kernel)) (fun _ h9 => h9) rfl dX10_knob_42 ?_
      refine lv_iconst (v := 4) hx hb dX10_knob_45 (by decide) ?_
      refine lv_iload_n hx hb dX10_knob_46 rfl (lv_at hl 2 rfl) ?_
      refine lv_imul hx hb dX10_knob_47 ?_
      refine lv_iload_n hx hb dX10_knob_48 rfl (lv_at hl 3 rfl) ?_
      refine lv_iadd hx hb dX10_knob_49 ?_
      refine lv_iload_n hx hb dX10_knob_50 rfl (lv_at hl 4 rfl) ?_
      rw [hix]
      refine m_iast hx hb hE hM hS g_b7 (in_k4 (by omega) hkk) dX10_knob_51 (fun H locs hM hS => ?_)
      rw [show upd KN (nI (4 * j + kk)).toNatClampNeg v = upd KN (4 * j + kk) v from by rw [nI_clamp (by omega)]] at hM
      have hM : mOK E.1 (mA M sz) (mUp M2 b7 (mI E 48 (upd KN (4 * j + kk) v))) H := hM
      obtain ⟨M3, eM3⟩ : ∃ z, z = mUp M2 b7 (mI E 48 (upd KN (4 * j + kk) v)) := ⟨_, rfl⟩
      rw [← eM3] at hM
      have g_y_ : M3 y = some (mO 8 [.ref b1, .ref b2, .ref b3, .ref b4, .ref b5, .int (nI nn), .ref b6, .ref b7, .ref b8, .ref b9, .ref b10, .ref b11, .int (nI nf), .ref b12, .ref b13, .int bd, .int 0, .int fa, .ref b14, .ref b15, .ref b16]) := by rw [eM3]; exact mUp_at (nd_ne hnd 0 7 rfl rfl (by decide)) g_y
      have g_b1_ : M3 b1 = some (mI E 10 B) := by rw [eM3]; exact mUp_at (nd_ne hnd 1 7 rfl rfl (by decide)) g_b1
      have g_b2_ : M3 b2 = some (mI E 12 T) := by rw [eM3]; exact mUp_at (nd_ne hnd 2 7 rfl rfl (by decide)) g_b2
      have g_b3_ : M3 b3 = some (mI E 24 LN) := by rw [eM3]; exact mUp_at (nd_ne hnd 3 7 rfl rfl (by decide)) g_b3
      have g_b4_ : M3 b4 = some (mI E 24 SZ) := by rw [eM3]; exact mUp_at (nd_ne hnd 4 7 rfl rfl (by decide)) g_b4
      have g_b5_ : M3 b5 = some (mJ E 960 SM) := by rw [eM3]; exact mUp_at (nd_ne hnd 5 7 rfl rfl (by decide)) g_b5
      have g_b6_ : M3 b6 = some (mI E 12 SO) := by rw [eM3]; exact mUp_at (nd_ne hnd 6 7 rfl rfl (by decide)) g_b6
      have g_b8_ : M3 b8 = some (mI E 12 PI) := by rw [eM3]; exact mUp_at (nd_ne hnd 8 7 rfl rfl (by decide)) g_b8
      have g_b9_ : M3 b9 = some (mZ E 12 ON) := by rw [eM3]; exact mUp_at (nd_ne hnd 9 7 rfl rfl (by decide)) g_b9
      have g_b10_ : M3 b10 = some (mI E 12 PH) := by rw [eM3]; exact mUp_at (nd_ne hnd 10 7 rfl rfl (by decide)) g_b10
      have g_b11_ : M3 b11 = some (mDb E 12 LE) := by rw [eM3]; exact mUp_at (nd_ne hnd 11 7 rfl rfl (by decide)) g_b11
      have g_b12_ : M3 b12 = some (mI E 8 KD) := by rw [eM3]; exact mUp_at (nd_ne hnd 12 7 rfl rfl (by decide)) g_b12
      have g_b13_ : M3 b13 = some (mI E 8 NM) := by rw [eM3]; exact mUp_at (nd_ne hnd 13 7 rfl rfl (by decide)) g_b13
      have g_b14_ : M3 b14 = some (mI E 3 CT) := by rw [eM3]; exact mUp_at (nd_ne hnd 14 7 rfl rfl (by decide)) g_b14
      have g_b15_ : M3 b15 = some (mDb E 40 CM) := by rw [eM3]; exact mUp_at (nd_ne hnd 15 7 rfl rfl (by decide)) g_b15
      have g_b16_ : M3 b16 = some (mJ E 40 MV) := by rw [eM3]; exact mUp_at (nd_ne hnd 16 7 rfl rfl (by decide)) g_b16
      have g_y := g_y_
      have g_b1 := g_b1_
      have g_b2 := g_b2_
      have g_b3 := g_b3_
      have g_b4 := g_b4_
      have g_b5 := g_b5_
      have g_b6 := g_b6_
      have g_b8 := g_b8_
      have g_b9 := g_b9_
      have g_b10 := g_b10_
      have g_b11 := g_b11_
      have g_b12 := g_b12_
      have g_b13 := g_b13_
      have g_b14 := g_b14_
      have g_b15 := g_b15_
      have g_b16 := g_b16_
      have g_b7 : M3 b7 = some (mI E 48 (upd KN (4 * j + kk) v)) := by rw [eM3]; exact mUp_self _ _ _
      have hk : kept (nol y b1 b2 b3 b4 b5 b6 b7 b8 b9 b10 b11 b12 b13 b14 b15 b16) M M3 := (by rw [eM3]; exact hk.up (nol_in 7 rfl))
      refine lv_iload hx hb dX10_knob_52 (lv_at hl 0 rfl) ?_
      exact m_iret hx hb hr hlocks hM hS (Nat.le_refl _) (Nat.le_refl _) dX10_knob_54 (by refine ⟨(by show _ = (if vI nn i ∧ vK k then _ else _); rw [if_pos ⟨c_5, c_14⟩, hjc, hins]; rw [hkc]), ?_, hk⟩; show mR E _ y b1 b2 b3 b4 b5 b6 b7 b8 b9 b10 b11 b12 b13 b14 b15 b16 (if vI nn i ∧ vK k then _ else _); rw [if_pos ⟨c_5, c_14⟩, hjc, hins]; exact ⟨_, _, _, _, _, _, _, _, _, _, _, _, _, _, _, _, _, ⟨g_y, g_b1, g_b2, g_b3, g_b4, g_b5, g_b6, g_b7, g_b8, g_b9, g_b10, g_b11, g_b12, g_b13, g_b14, g_b15, g_b16⟩, hB, (by rw [tbs_same (by rw [htbj])]; exact hT), (hR.mono (live_up' (by rw [hins]))), (hN.up (fun q _ hqj => ⟨rfl, fun k9 hk9 => upd_o (by omega), rfl, rfl, rfl, rfl⟩) (fun q _ => ⟨id, id⟩) ⟨hSo, (fun k9 hk9 => (by show upd KN (4 * j + kk) v (4 * j + k9) = upd kf k.toNatClampNeg v k9; rw [hkc]; by_cases h9 : k9 = kk; exact (by rw [h9, upd_s, upd_s]); exact (by rw [upd_o (by omega), upd_o h9]; exact hKn k9 hk9))), hPi, hOn, hPh, hLe⟩), hF, hc2, hc3, hc4⟩)
    · skip
      rw [bI_eq] at c_14
      have hz : ¬ (vI nn i ∧ vK k) := na2 c_14
      refine lv_aload_n hx hb dX10_knob_17 rfl (lv_at hl 0 rfl) ?_
      refine lv_iconst (v := -1) hx hb dX10_knob_18 (by decide) ?_
      refine m_put (ci := 8) (v := .int (-1)) (ty := .int) (C := RX10) (T := TX10) (N := 21) hx hb hts in_X10_knob_X10 tyX10 tyX10_ok nmX10 hown hE hM hS g_y rfl 16 (by decide) (hts (.fieldLink RX10 72 "CallWays2Model" "stateNow" "I") (by decide +kernel)) (fun _ h9 => h9) rfl (by decide +kernel) rfl rfl (Nat.le_of_ble_eq_true rfl) dX10_knob_19 (fun H locs hM hS => ?_)
      have hM : mOK E.1 (mA M sz) (mUp M y (mO 8 [.ref b1, .ref b2, .ref b3, .ref b4, .ref b5, .int (nI nn), .ref b6, .ref b7, .ref b8, .ref b9, .ref b10, .ref b11, .int (nI nf), .ref b12, .ref b13, .int bd, .int (-1), .int fa, .ref b14, .ref b15, .ref b16])) H := hM
      obtain ⟨M4, eM4⟩ : ∃ z, z = mUp M y (mO 8 [.ref b1, .ref b2, .ref b3, .ref b4, .ref b5, .int (nI nn), .ref b6, .ref b7, .ref b8, .ref b9, .ref b10, .ref b11, .int (nI nf), .ref b12, .ref b13, .int bd, .int (-1), .int fa, .ref b14, .ref b15, .ref b16]) := ⟨_, rfl⟩
      rw [← eM4] at hM
      have g_b1_ : M4 b1 = some (mI E 10 B) := by rw [eM4]; exact mUp_at (nd_ne hnd 1 0 rfl rfl (by decide)) g_b1
      have g_b2_ : M4 b2 = some (mI E 12 T) := by rw [eM4]; exact mUp_at (nd_ne hnd 2 0 rfl rfl (by decide)) g_b2
      have g_b3_ : M4 b3 = some (mI E 24 LN) := by rw [eM4]; exact mUp_at (nd_ne hnd 3 0 rfl rfl (by decide)) g_b3
      have g_b4_ : M4 b4 = some (mI E 24 SZ) := by rw [eM4]; exact mUp_at (nd_ne hnd 4 0 rfl rfl (by decide)) g_b4
      have g_b5_ : M4 b5 = some (mJ E 960 SM) := by rw [eM4]; exact mUp_at (nd_ne hnd 5 0 rfl rfl (by decide)) g_b5
      have g_b6_ : M4 b6 = some (mI E 12 SO) := by rw [eM4]; exact mUp_at (nd_ne hnd 6 0 rfl rfl (by decide)) g_b6
      have g_b7_ : M4 b7 = some (mI E 48 KN) := by rw [eM4]; exact mUp_at (nd_ne hnd 7 0 rfl rfl (by decide)) g_b7
      have g_b8_ : M4 b8 = some (mI E 12 PI) := by rw [eM4]; exact mUp_at (nd_ne hnd 8 0 rfl rfl (by decide)) g_b8
      have g_b9_ : M4 b9 = some (mZ E 12 ON) := by rw [eM4]; exact mUp_at (nd_ne hnd 9 0 rfl rfl (by decide)) g_b9
      have g_b10_ : M4 b10 = some (mI E 12 PH) := by rw [eM4]; exact mUp_at (nd_ne hnd 10 0 rfl rfl (by decide)) g_b10
      have g_b11_ : M4 b11 = some (mDb E 12 LE) := by rw [eM4]; exact mUp_at (nd_ne hnd 11 0 rfl rfl (by decide)) g_b11
      have g_b12_ : M4 b12 = some (mI E 8 KD) := by rw [eM4]; exact mUp_at (nd_ne hnd 12 0 rfl rfl (by decide)) g_b12
      have g_b13_ : M4 b13 = some (mI E 8 NM) := by rw [eM4]; exact mUp_at (nd_ne hnd 13 0 rfl rfl (by decide)) g_b13
      have g_b14_ : M4 b14 = some (mI E 3 CT) := by rw [eM4]; exact mUp_at (nd_ne hnd 14 0 rfl rfl (by decide)) g_b14
      have g_b15_ : M4 b15 = some (mDb E 40 CM) := by rw [eM4]; exact mUp_at (nd_ne hnd 15 0 rfl rfl (by decide)) g_b15
      have g_b16_ : M4 b16 = some (mJ E 40 MV) := by rw [eM4]; exact mUp_at (nd_ne hnd 16 0 rfl rfl (by decide)) g_b16
      have g_b1 := g_b1_
      have g_b2 := g_b2_
      have g_b3 := g_b3_
      have g_b4 := g_b4_
      have g_b5 := g_b5_
      have g_b6 := g_b6_
      have g_b7 := g_b7_
      have g_b8 := g_b8_
      have g_b9 := g_b9_
      have g_b10 := g_b10_
      have g_b11 := g_b11_
      have g_b12 := g_b12_
      have g_b13 := g_b13_
      have g_b14 := g_b14_
      have g_b15 := g_b15_
      have g_b16 := g_b16_
      have g_y : M4 y = some (mO 8 [.ref b1, .ref b2, .ref b3, .ref b4, .ref b5, .int (nI nn), .ref b6, .ref b7, .ref b8, .ref b9, .ref b10, .ref b11, .int (nI nf), .ref b12, .ref b13, .int bd, .int (-1), .int fa, .ref b14, .ref b15, .ref b16]) := by rw [eM4]; exact mUp_self _ _ _
      have hk : kept (nol y b1 b2 b3 b4 b5 b6 b7 b8 b9 b10 b11 b12 b13 b14 b15 b16) M M4 := (by rw [eM4]; exact hk.up (nol_in 0 rfl))
      refine lv_iconst (v := 0) hx hb dX10_knob_22 (by decide) ?_
      exact m_iret hx hb hr hlocks hM hS (Nat.le_refl _) (Nat.le_refl _) dX10_knob_23 (by refine ⟨(if_neg hz).symm, ?_, hk⟩; show mR E _ y b1 b2 b3 b4 b5 b6 b7 b8 b9 b10 b11 b12 b13 b14 b15 b16 (if vI nn i ∧ vK k then _ else _); rw [if_neg hz]; exact ⟨_, _, _, _, _, _, _, _, _, _, _, _, _, _, _, _, _, ⟨g_y, g_b1, g_b2, g_b3, g_b4, g_b5, g_b6, g_b7, g_b8, g_b9, g_b10, g_b11, g_b12, g_b13, g_b14, g_b15, g_b16⟩, hB, hT, hR, hN, hF, hc2, hc3, hc4⟩)
theorem in_X10_phase_X10 : ∀ w ∈ wsX100, w ∈ wsX10_phase := by decide +kernel
set_option maxHeartbeats 4000000 in
set_option maxRecDepth 100000 in
theorem c_X10_phase (l : Launch) (E : mEnv) (M : mMem) (sz : Nat) (y b1 b2 b3 b4 b5 b6 b7 b8 b9 b10 b11 b12 b13 b14 b15 b16 nn nf : Nat) (ins : Nat → sIn) (fn : Nat → Int32 × Int32) (bk : Nat → Option Nat) (rw : Nat → sRw) (bd st c2 c3 c4 : Int32) (hV : Inv (nn, ins, nf, fn, bk, rw, bd, st, c2, c3, c4)) (hC : mR E M y b1 b2 b3 b4 b5 b6 b7 b8 b9 b10 b11 b12 b13 b14 b15 b16 (nn, ins, nf, fn, bk, rw, bd, st, c2, c3, c4)) (hnd : [y, b1, b2, b3, b4, b5, b6, b7, b8, b9, b10, b11, b12, b13, b14, b15, b16].Nodup) (i v : Int32)    : Met l yX10_phase wsX10_phase ({ frames := 2, cells := 0, slots := 0, locals := 43 }) (mPre E M sz [.ref y, .int i, .int v]) (mQi E M sz (fun r u => r = aPhase (nn, ins, nf, fn, bk, rw, bd, st, c2, c3, c4) i v ∧ mR E u y b1 b2 b3 b4 b5 b6 b7 b8 b9 b10 b11 b12 b13 b14 b15 b16 (nPhase (nn, ins, nf, fn, bk, rw, bd, st, c2, c3, c4) i v) ∧ kept (nol y b1 b2 b3 b4 b5 b6 b7 b8 b9 b10 b11 b12 b13 b14 b15 b16) M u)) (0) (0) (mA M sz) := by
  refine m_met [.ref y, .int i, .int v] (by decide) rfl (Nat.le_of_ble_eq_true rfl) ?_
  intro p e s m below meth c ls H eH hx hb hr hts hown hlocks hnm hml hsz hE hM hS hA hl
  have hl : lv_has ls 4 [(0, .ref y), (1, .int i), (2, .int v)] := hl
  have hC0 := hC
  obtain ⟨fa, B, T, LN, SZ, SM, SO, KN, PI, ON, PH, LE, KD, NM, CT, CM, MV, ⟨g_y, g_b1, g_b2, g_b3, g_b4, g_b5, g_b6, g_b7, g_b8, g_b9, g_b10, g_b11, g_b12, g_b13, g_b14, g_b15, g_b16⟩, hB, hT, hR, hN, hF, hc2, hc3, hc4⟩ := hC
  have hiK := hV.insK
  have h24t := hV.tb24
  have h40 := hV.n40
  obtain ⟨hnn, hnf, hvI, hvD, hv24, hvR, hvF⟩ := id hV
  have h24 : ∀ k, k < 10 → ∀ r, bk k = some r → r < 24 := fun k hk r hr => hv24 r (Or.inl ⟨k, hk, hr⟩)
  have hk : kept (nol y b1 b2 b3 b4 b5 b6 b7 b8 b9 b10 b11 b12 b13 b14 b15 b16) M M := kept.rf
  refine lv_aload_n hx hb dX10_phase_0 rfl (lv_at hl 0 rfl) ?_
  refine lv_iload_n hx hb dX10_phase_1 rfl (lv_at hl 1 rfl) ?_
  refine m_calli (va_runV (As := [.int i]) (rest := []) ⟨hx, hb, hml, hown, hts⟩ (c_X10_isInst l E M H.size y b1 b2 b3 b4 b5 b6 b7 b8 b9 b10 b11 b12 b13 b14 b15 b16 (nI nf) bd st fa nn hnn i g_y) (cwV 1 hts gX10_phase_X10_isInstrument rfl rfl rfl (by decide +kernel) ⟨Nat.le_of_ble_eq_true rfl, Nat.le_of_ble_eq_true rfl⟩) (m_preV hE hM g_y rfl) rfl rfl hl.1 rfl (lv_room (Nat.le_of_ble_eq_true rfl)) dX10_phase_2 ⟨Nat.le_of_ble_eq_true rfl, Nat.le_of_ble_eq_true rfl⟩) hM hS hA (fun r0 u H locs hw hM hS => ?_)
  obtain ⟨e_r0, eu⟩ := hw
  rw [eu] at hM
  subst e_r0
  refine lv_if_ne (tgt := 15) hx hb dX10_phase_5 (by decide) (fun c_5 => ?_) (fun c_5 => ?_)
  · skip
    rw [bI_ne] at c_5
    obtain ⟨j, hj, hij, hjc⟩ := vI_ix c_5 hnn
    rcases hins : ins j with ⟨ci, kf, pi, on, ph, le, tb⟩
    obtain ⟨hSo, hKn, hPi, hOn, hPh, hLe⟩ := hN j (by omega) _ _ _ _ _ _ _ hins
    obtain ⟨hci, hle, hon⟩ := hvI j hj _ _ _ _ _ _ _ hins
    have hiin : vp_in i 12 := (by rw [hij]; exact vp_in_nI (by omega) (by decide))
    have htbj : tbs ins j = tb := (by show (ins j).2.2.2.2.2.2 = tb; rw [hins])
    refine lv_aload_n hx hb dX10_phase_15 rfl (lv_at hl 0 rfl) ?_
    refine lv_iconst (v := 0) hx hb dX10_phase_16 (by decide) ?_
    refine m_put (ci := 8) (v := .int 0) (ty := .int) (C := RX10) (T := TX10) (N := 21) hx hb hts in_X10_phase_X10 tyX10 tyX10_ok nmX10 hown hE hM hS g_y rfl 16 (by decide) (hts (.fieldLink RX10 72 "CallWays2Model" "stateNow" "I") (by decide +kernel)) (fun _ h9 => h9) rfl (by decide +kernel) rfl rfl (Nat.le_of_ble_eq_true rfl) dX10_phase_17 (fun H locs hM hS => ?_)
    have hM : mOK E.1 (mA M sz) (mUp M y (mO 8 [.ref b1, .ref b2, .ref b3, .ref b4, .ref b5, .int (nI nn), .ref b6, .ref b7, .ref b8, .ref b9, .ref b10, .ref b11, .int (nI nf), .ref b12, .ref b13, .int bd, .int 0, .int fa, .ref b14, .ref b15, .ref b16])) H := hM
    obtain ⟨M1, eM1⟩ : ∃ z, z = mUp M y (mO 8 [.ref b1, .ref b2, .ref b3, .ref b4, .ref b5, .int (nI nn), .ref b6, .ref b7, .ref b8, .ref b9, .ref b10, .ref b11, .int (nI nf), .ref b12, .ref b13, .int bd, .int 0, .int fa, .ref b14, .ref b15, .ref b16]) := ⟨_, rfl⟩
    rw [← eM1] at hM
    have g_b1_ : M1 b1 = some (mI E 10 B) := by rw [eM1]; exact mUp_at (nd_ne hnd 1 0 rfl rfl (by decide)) g_b1
    have g_b2_ : M1 b2 = some (mI E 12 T) := by rw [eM1]; exact mUp_at (nd_ne hnd 2 0 rfl rfl (by decide)) g_b2
    have g_b3_ : M1 b3 = some (mI E 24 LN) := by rw [eM1]; exact mUp_at (nd_ne hnd 3 0 rfl rfl (by decide)) g_b3
    have g_b4_ : M1 b4 = some (mI E 24 SZ) := by rw [eM1]; exact mUp_at (nd_ne hnd 4 0 rfl rfl (by decide)) g_b4
    have g_b5_ : M1 b5 = some (mJ E 960 SM) := by rw [eM1]; exact mUp_at (nd_ne hnd 5 0 rfl rfl (by decide)) g_b5
    have g_b6_ : M1 b6 = some (mI E 12 SO) := by rw [eM1]; exact mUp_at (nd_ne hnd 6 0 rfl rfl (by decide)) g_b6
    have g_b7_ : M1 b7 = some (mI E 48 KN) := by rw [eM1]; exact mUp_at (nd_ne hnd 7 0 rfl rfl (by decide)) g_b7
    have g_b8_ : M1 b8 = some (mI E 12 PI) := by rw [eM1]; exact mUp_at (nd_ne hnd 8 0 rfl rfl (by decide)) g_b8
    have g_b9_ : M1 b9 = some (mZ E 12 ON) := by rw [eM1]; exact mUp_at (nd_ne hnd 9 0 rfl rfl (by decide)) g_b9
    have g_b10_ : M1 b10 = some (mI E 12 PH) := by rw [eM1]; exact mUp_at (nd_ne hnd 10 0 rfl rfl (by decide)) g_b10
    have g_b11_ : M1 b11 = some (mDb E 12 LE) := by rw [eM1]; exact mUp_at (nd_ne hnd 11 0 rfl rfl (by decide)) g_b11
    have g_b12_ : M1 b12 = some (mI E 8 KD) := by rw [eM1]; exact mUp_at (nd_ne hnd 12 0 rfl rfl (by decide)) g_b12
    have g_b13_ : M1 b13 = some (mI E 8 NM) := by rw [eM1]; exact mUp_at (nd_ne hnd 13 0 rfl rfl (by decide)) g_b13
    have g_b14_ : M1 b14 = some (mI E 3 CT) := by rw [eM1]; exact mUp_at (nd_ne hnd 14 0 rfl rfl (by decide)) g_b14
    have g_b15_ : M1 b15 = some (mDb E 40 CM) := by rw [eM1]; exact mUp_at (nd_ne hnd 15 0 rfl rfl (by decide)) g_b15
    have g_b16_ : M1 b16 = some (mJ E 40 MV) := by rw [eM1]; exact mUp_at (nd_ne hnd 16 0 rfl rfl (by decide)) g_b16
    have g_b1 := g_b1_
    have g_b2 := g_b2_
    have g_b3 := g_b3_
    have g_b4 := g_b4_
    have g_b5 := g_b5_
    have g_b6 := g_b6_
    have g_b7 := g_b7_
    have g_b8 := g_b8_
    have g_b9 := g_b9_
    have g_b10 := g_b10_
    have g_b11 := g_b11_
    have g_b12 := g_b12_
    have g_b13 := g_b13_
    have g_b14 := g_b14_
    have g_b15 := g_b15_
    have g_b16 := g_b16_
    have g_y : M1 y = some (mO 8 [.ref b1, .ref b2, .ref b3, .ref b4, .ref b5, .int (nI nn), .ref b6, .ref b7, .ref b8, .ref b9, .ref b10, .ref b11, .int (nI nf), .ref b12, .ref b13, .int bd, .int 0, .int fa, .ref b14, .ref b15, .ref b16]) := by rw [eM1]; exact mUp_self _ _ _
    have hk : kept (nol y b1 b2 b3 b4 b5 b6 b7 b8 b9 b10 b11 b12 b13 b14 b15 b16) M M1 := (by rw [eM1]; exact hk.up (nol_in 0 rfl))
    refine lv_aload_n hx hb dX10_phase_20 rfl (lv_at hl 0 rfl) ?_
    refine m_get (ci := 8) (v := .ref b10) (C := RX10) (T := TX10) (N := 21) hx hb hts in_X10_phase_X10 hown hE hM g_y rfl 10 (by decide) (hts (.fieldLink RX10 39 "CallWays2Model" "phases" "[I") (by decide +kernel)) (fun _ h9 => h9) rfl dX10_phase_21 ?_
    refine lv_iload_n hx hb dX10_phase_24 rfl (lv_at hl 1 rfl) ?_
    refine m_iald hx hb hE hM g_b10 hiin dX10_phase_25 ?_
    rw [show PH i.toNatClampNeg = ph from by rw [hjc, hPh]]
    refine lv_istore_n (lv' := [(3, .int ph), (0, .ref y), (1, .int i), (2, .int v)]) hx hb dX10_phase_26 rfl hl (by decide) rfl (fun ls hl => ?_)
    refine lv_aload_n hx hb dX10_phase_27 rfl (lv_at hl 1 rfl) ?_
    refine m_get (ci := 8) (v := .ref b10) (C := RX10) (T := TX10) (N := 21) hx hb hts in_X10_phase_X10 hown hE hM g_y rfl 10 (by decide) (hts (.fieldLink RX10 39 "CallWays2Model" "phases" "[I") (by decide +kernel)) (fun _ h9 => h9) rfl dX10_phase_28 ?_
    refine lv_iload_n hx hb dX10_phase_31 rfl (lv_at hl 2 rfl) ?_
    refine lv_iload_n hx hb dX10_phase_32 rfl (lv_at hl 3 rfl) ?_
    refine m_iast hx hb hE hM hS g_b10 hiin dX10_phase_33 (fun H locs hM hS => ?_)
    rw [show upd PH i.toNatClampNeg v = upd PH j v from by rw [hjc]] at hM
    have hM : mOK E.1 (mA M sz) (mUp M1 b10 (mI E 12 (upd PH j v))) H := hM
    obtain ⟨M2, eM2⟩ : ∃ z, z = mUp M1 b10 (mI E 12 (upd PH j v)) := ⟨_, rfl⟩
    rw [← eM2] at hM
    have g_y_ : M2 y = some (mO 8 [.ref b1, .ref b2, .ref b3, .ref b4, .ref b5, .int (nI nn), .ref b6, .ref b7, .ref b8, .ref b9, .ref b10, .ref b11, .int (nI nf), .ref b12, .ref b13, .int bd, .int 0, .int fa, .ref b14, .ref b15, .ref b16]) := by rw [eM2]; exact mUp_at (nd_ne hnd 0 10 rfl rfl (by decide)) g_y
    have g_b1_ : M2 b1 = some (mI E 10 B) := by rw [eM2]; exact mUp_at (nd_ne hnd 1 10 rfl rfl (by decide)) g_b1
    have g_b2_ : M2 b2 = some (mI E 12 T) := by rw [eM2]; exact mUp_at (nd_ne hnd 2 10 rfl rfl (by decide)) g_b2
    have g_b3_ : M2 b3 = some (mI E 24 LN) := by rw [eM2]; exact mUp_at (nd_ne hnd 3 10 rfl rfl (by decide)) g_b3
    have g_b4_ : M2 b4 = some (mI E 24 SZ) := by rw [eM2]; exact mUp_at (nd_ne hnd 4 10 rfl rfl (by decide)) g_b4
    have g_b5_ : M2 b5 = some (mJ E 960 SM) := by rw [eM2]; exact mUp_at (nd_ne hnd 5 10 rfl rfl (by decide)) g_b5
    have g_b6_ : M2 b6 = some (mI E 12 SO) := by rw [eM2]; exact mUp_at (nd_ne hnd 6 10 rfl rfl (by decide)) g_b6
    have g_b7_ : M2 b7 = some (mI E 48 KN) := by rw [eM2]; exact mUp_at (nd_ne hnd 7 10 rfl rfl (by decide)) g_b7
    have g_b8_ : M2 b8 = some (mI E 12 PI) := by rw [eM2]; exact mUp_at (nd_ne hnd 8 10 rfl rfl (by decide)) g_b8
    have g_b9_ : M2 b9 = some (mZ E 12 ON) := by rw [eM2]; exact mUp_at (nd_ne hnd 9 10 rfl rfl (by decide)) g_b9
    have g_b11_ : M2 b11 = some (mDb E 12 LE) := by rw [eM2]; exact mUp_at (nd_ne hnd 11 10 rfl rfl (by decide)) g_b11
    have g_b12_ : M2 b12 = some (mI E 8 KD) := by rw [eM2]; exact mUp_at (nd_ne hnd 12 10 rfl rfl (by decide)) g_b12
    have g_b13_ : M2 b13 = some (mI E 8 NM) := by rw [eM2]; exact mUp_at (nd_ne hnd 13 10 rfl rfl (by decide)) g_b13
    have g_b14_ : M2 b14 = some (mI E 3 CT) := by rw [eM2]; exact mUp_at (nd_ne hnd 14 10 rfl rfl (by decide)) g_b14
    have g_b15_ : M2 b15 = some (mDb E 40 CM) := by rw [eM2]; exact mUp_at (nd_ne hnd 15 10 rfl rfl (by decide)) g_b15
    have g_b16_ : M2 b16 = some (mJ E 40 MV) := by rw [eM2]; exact mUp_at (nd_ne hnd 16 10 rfl rfl (by decide)) g_b16
    have g_y := g_y_
    have g_b1 := g_b1_
    have g_b2 := g_b2_
    have g_b3 := g_b3_
    have g_b4 := g_b4_
    have g_b5 := g_b5_
    have g_b6 := g_b6_
    have g_b7 := g_b7_
    have g_b8 := g_b8_
    have g_b9 := g_b9_
    have g_b11 := g_b11_
    have g_b12 := g_b12_
    have g_b13 := g_b13_
    have g_b14 := g_b14_
    have g_b15 := g_b15_
    have g_b16 := g_b16_
    have g_b10 : M2 b10 = some (mI E 12 (upd PH j v)) := by rw [eM2]; exact mUp_self _ _ _
    have hk : kept (nol y b1 b2 b3 b4 b5 b6 b7 b8 b9 b10 b11 b12 b13 b14 b15 b16) M M2 := (by rw [eM2]; exact hk.up (nol_in 10 rfl))
    refine lv_iload_n hx hb dX10_phase_34 rfl (lv_at hl 0 rfl) ?_
    exact m_iret hx hb hr hlocks hM hS (Nat.le_refl _) (Nat.le_refl _) dX10_phase_35 (by refine ⟨(by show _ = (if vI nn i then _ else _); rw [if_pos c_5, hjc, hins]), ?_, hk⟩; show mR E _ y b1 b2 b3 b4 b5 b6 b7 b8 b9 b10 b11 b12 b13 b14 b15 b16 (if vI nn i then _ else _); rw [if_pos c_5, hjc, hins]; exact ⟨_, _, _, _, _, _, _, _, _, _, _, _, _, _, _, _, _, ⟨g_y, g_b1, g_b2, g_b3, g_b4, g_b5, g_b6, g_b7, g_b8, g_b9, g_b10, g_b11, g_b12, g_b13, g_b14, g_b15, g_b16⟩, hB, (by rw [tbs_same (by rw [htbj])]; exact hT), (hR.mono (live_up' (by rw [hins]))), (hN.up (fun q _ hqj => ⟨rfl, fun _ _ => rfl, rfl, rfl, upd_o hqj, rfl⟩) (fun q _ => ⟨id, id⟩) ⟨hSo, hKn, hPi, hOn, upd_s, hLe⟩), hF, hc2, hc3, hc4⟩)
  · skip
    rw [bI_eq] at c_5
    refine lv_aload_n hx hb dX10_phase_8 rfl (lv_at hl 0 rfl) ?_
    refine lv_iconst (v := -1) hx hb dX10_phase_9 (by decide) ?_
    refine m_put (ci := 8) (v := .int (-1)) (ty := .int) (C := RX10) (T := TX10) (N := 21) hx hb hts in_X10_phase_X10 tyX10 tyX10_ok nmX10 hown hE hM hS g_y rfl 16 (by decide) (hts (.fieldLink RX10 72 "CallWays2Model" "stateNow" "I") (by decide +kernel)) (fun _ h9 => h9) rfl (by decide +kernel) rfl rfl (Nat.le_of_ble_eq_true rfl) dX10_phase_10 (fun H locs hM hS => ?_)
    have hM : mOK E.1 (mA M sz) (mUp M y (mO 8 [.ref b1, .ref b2, .ref b3, .ref b4, .ref b5, .int (nI nn), .ref b6, .ref b7, .ref b8, .ref b9, .ref b10, .ref b11, .int (nI nf), .ref b12, .ref b13, .int bd, .int (-1), .int fa, .ref b14, .ref b15, .ref b16])) H := hM
    obtain ⟨M3, eM3⟩ : ∃ z, z = mUp M y (mO 8 [.ref b1, .ref b2, .ref b3, .ref b4, .ref b5, .int (nI nn), .ref b6, .ref b7, .ref b8, .ref b9, .ref b10, .ref b11, .int (nI nf), .ref b12, .ref b13, .int bd, .int (-1), .int fa, .ref b14, .ref b15, .ref b16]) := ⟨_, rfl⟩
    rw [← eM3] at hM
    have g_b1_ : M3 b1 = some (mI E 10 B) := by rw [eM3]; exact mUp_at (nd_ne hnd 1 0 rfl rfl (by decide)) g_b1
    have g_b2_ : M3 b2 = some (mI E 12 T) := by rw [eM3]; exact mUp_at (nd_ne hnd 2 0 rfl rfl (by decide)) g_b2
    have g_b3_ : M3 b3 = some (mI E 24 LN) := by rw [eM3]; exact mUp_at (nd_ne hnd 3 0 rfl rfl (by decide)) g_b3
    have g_b4_ : M3 b4 = some (mI E 24 SZ) := by rw [eM3]; exact mUp_at (nd_ne hnd 4 0 rfl rfl (by decide)) g_b4
    have g_b5_ : M3 b5 = some (mJ E 960 SM) := by rw [eM3]; exact mUp_at (nd_ne hnd 5 0 rfl rfl (by decide)) g_b5
    have g_b6_ : M3 b6 = some (mI E 12 SO) := by rw [eM3]; exact mUp_at (nd_ne hnd 6 0 rfl rfl (by decide)) g_b6
    have g_b7_ : M3 b7 = some (mI E 48 KN) := by rw [eM3]; exact mUp_at (nd_ne hnd 7 0 rfl rfl (by decide)) g_b7
    have g_b8_ : M3 b8 = some (mI E 12 PI) := by rw [eM3]; exact mUp_at (nd_ne hnd 8 0 rfl rfl (by decide)) g_b8
    have g_b9_ : M3 b9 = some (mZ E 12 ON) := by rw [eM3]; exact mUp_at (nd_ne hnd 9 0 rfl rfl (by decide)) g_b9
    have g_b10_ : M3 b10 = some (mI E 12 PH) := by rw [eM3]; exact mUp_at (nd_ne hnd 10 0 rfl rfl (by decide)) g_b10
    have g_b11_ : M3 b11 = some (mDb E 12 LE) := by rw [eM3]; exact mUp_at (nd_ne hnd 11 0 rfl rfl (by decide)) g_b11
    have g_b12_ : M3 b12 = some (mI E 8 KD) := by rw [eM3]; exact mUp_at (nd_ne hnd 12 0 rfl rfl (by decide)) g_b12
    have g_b13_ : M3 b13 = some (mI E 8 NM) := by rw [eM3]; exact mUp_at (nd_ne hnd 13 0 rfl rfl (by decide)) g_b13
    have g_b14_ : M3 b14 = some (mI E 3 CT) := by rw [eM3]; exact mUp_at (nd_ne hnd 14 0 rfl rfl (by decide)) g_b14
    have g_b15_ : M3 b15 = some (mDb E 40 CM) := by rw [eM3]; exact mUp_at (nd_ne hnd 15 0 rfl rfl (by decide)) g_b15
    have g_b16_ : M3 b16 = some (mJ E 40 MV) := by rw [eM3]; exact mUp_at (nd_ne hnd 16 0 rfl rfl (by decide)) g_b16
    have g_b1 := g_b1_
    have g_b2 := g_b2_
    have g_b3 := g_b3_
    have g_b4 := g_b4_
    have g_b5 := g_b5_
    have g_b6 := g_b6_
    have g_b7 := g_b7_
    have g_b8 := g_b8_
    have g_b9 := g_b9_
    have g_b10 := g_b10_
    have g_b11 := g_b11_
    have g_b12 := g_b12_
    have g_b13 := g_b13_
    have g_b14 := g_b14_
    have g_b15 := g_b15_
    have g_b16 := g_b16_
    have g_y : M3 y = some (mO 8 [.ref b1, .ref b2, .ref b3, .ref b4, .ref b5, .int (nI nn), .ref b6, .ref b7, .ref b8, .ref b9, .ref b10, .ref b11, .int (nI nf), .ref b12, .ref b13, .int bd, .int (-1), .int fa, .ref b14, .ref b15, .ref b16]) := by rw [eM3]; exact mUp_self _ _ _
    have hk : kept (nol y b1 b2 b3 b4 b5 b6 b7 b8 b9 b10 b11 b12 b13 b14 b15 b16) M M3 := (by rw [eM3]; exact hk.up (nol_in 0 rfl))
    refine lv_iconst (v := 0) hx hb dX10_phase_13 (by decide) ?_
    exact m_iret hx hb hr hlocks hM hS (Nat.le_refl _) (Nat.le_refl _) dX10_phase_14 (by refine ⟨(if_neg c_5).symm, ?_, hk⟩; show mR E _ y b1 b2 b3 b4 b5 b6 b7 b8 b9 b10 b11 b12 b13 b14 b15 b16 (if vI nn i then _ else _); rw [if_neg c_5]; exact ⟨_, _, _, _, _, _, _, _, _, _, _, _, _, _, _, _, _, ⟨g_y, g_b1, g_b2, g_b3, g_b4, g_b5, g_b6, g_b7, g_b8, g_b9, g_b10, g_b11, g_b12, g_b13, g_b14, g_b15, g_b16⟩, hB, hT, hR, hN, hF, hc2, hc3, hc4⟩)
theorem in_X10_isLent_X10 : ∀ w ∈ wsX100, w ∈ wsX10_isLent := by decide +kernel
set_option maxHeartbeats 4000000 in
set_option maxRecDepth 100000 in
theorem c_X10_isLent (l : Launch) (E : mEnv) (M : mMem) (sz : Nat) (y b1 b2 b3 b4 b5 b6 b7 b8 b9 b10 b11 b12 b13 b14 b15 b16 nn nf : Nat) (ins : Nat → sIn) (fn : Nat → Int32 × Int32) (bk : Nat → Option Nat) (rw : Nat → sRw) (bd st c2 c3 c4 : Int32) (hV : Inv (nn, ins, nf, fn, bk, rw, bd, st, c2, c3, c4)) (hC : mR E M y b1 b2 b3 b4 b5 b6 b7 b8 b9 b10 b11 b12 b13 b14 b15 b16 (nn, ins, nf, fn, bk, rw, bd, st, c2, c3, c4)) (hnd : [y, b1, b2, b3, b4, b5, b6, b7, b8, b9, b10, b11, b12, b13, b14, b15, b16].Nodup) (a b : Int32)    : Met l yX10_isLent wsX10_isLent ({ frames := 1, cells := 0, slots := 0, locals := 22 }) (mPre E M sz [.ref y, .int a, .int b]) (mQi E M sz (fun r u => r = aIsLent (nn, ins, nf, fn, bk, rw, bd, st, c2, c3, c4) a b ∧ mR E u y b1 b2 b3 b4 b5 b6 b7 b8 b9 b10 b11 b12 b13 b14 b15 b16 ((nn, ins, nf, fn, bk, rw, bd, st, c2, c3, c4)) ∧ kept (nol y b1 b2 b3 b4 b5 b6 b7 b8 b9 b10 b11 b12 b13 b14 b15 b16) M u)) (0) (0) (mA M sz) := by
  refine m_met [.ref y, .int a, .int b] (by decide) rfl (Nat.le_of_ble_eq_true rfl) ?_
  intro p e s m below meth c ls H eH hx hb hr hts hown hlocks hnm hml hsz hE hM hS hA hl
  have hl : lv_has ls 3 [(0, .ref y), (1, .int a), (2, .int b)] := hl
  have hC0 := hC
  obtain ⟨fa, B, T, LN, SZ, SM, SO, KN, PI, ON, PH, LE, KD, NM, CT, CM, MV, ⟨g_y, g_b1, g_b2, g_b3, g_b4, g_b5, g_b6, g_b7, g_b8, g_b9, g_b10, g_b11, g_b12, g_b13, g_b14, g_b15, g_b16⟩, hB, hT, hR, hN, hF, hc2, hc3, hc4⟩ := hC
  have hiK := hV.insK
  have h24t := hV.tb24
  have h40 := hV.n40
  obtain ⟨hnn, hnf, hvI, hvD, hv24, hvR, hvF⟩ := id hV
  have h24 : ∀ k, k < 10 → ∀ r, bk k = some r → r < 24 := fun k hk r hr => hv24 r (Or.inl ⟨k, hk, hr⟩)
  have hk : kept (nol y b1 b2 b3 b4 b5 b6 b7 b8 b9 b10 b11 b12 b13 b14 b15 b16) M M := kept.rf
  refine lv_iload_n hx hb dX10_isLent_0 rfl (lv_at hl 1 rfl) ?_
  refine lv_iconst (v := 0) hx hb dX10_isLent_1 (by decide) ?_
  refine lv_bipush (v := 9) hx hb dX10_isLent_2 (by decide) ?_
  refine m_calli (va_runS (As := [.int a, .int 0, .int 9]) (rest := []) ⟨hx, hb, hml, hown, hts⟩ (c_X10_in l E M H.size a 0 9) (va_cwS 3 hts gX10_isLent_X10_in rfl rfl rfl (by decide +kernel) ⟨Nat.le_of_ble_eq_true rfl, Nat.le_of_ble_eq_true rfl⟩) (m_preS hE hM) rfl rfl hl.1 rfl (lv_room (Nat.le_of_ble_eq_true rfl)) dX10_isLent_4 ⟨Nat.le_of_ble_eq_true rfl, Nat.le_of_ble_eq_true rfl⟩) hM hS hA (fun r0 u H locs hw hM hS => ?_)
  obtain ⟨e_r0, eu⟩ := hw
  rw [eu] at hM
  rw [bI_congr (in_9)] at e_r0
  subst e_r0
  refine lv_if_eq (tgt := 39) hx hb dX10_isLent_7 (by decide) (fun c_7 => ?_) (fun c_7 => ?_)
  · skip
    rw [bI_eq] at c_7
    have hz : ¬ (vB a ∧ vB b ∧ bk a.toNatClampNeg = bk b.toNatClampNeg) := na1 c_7
    refine lv_iconst (v := 0) hx hb dX10_isLent_39 (by decide) ?_
    exact m_zret hx hb hr hlocks hM hS (Nat.le_refl _) (Nat.le_refl _) dX10_isLent_40 (by first | exact Or.inl rfl | exact Or.inr rfl) (by exact ⟨(bI_f hz).symm, hC0, hk⟩)
  · skip
    rw [bI_ne] at c_7
    obtain ⟨jb, hjb, hbj, hjbc⟩ := vB_ix c_7
    have hbin : vp_in a 10 := (by rw [hbj]; exact vp_in_nI (by omega) (by decide))
    refine lv_iload_n hx hb dX10_isLent_10 rfl (lv_at hl 2 rfl) ?_
    refine lv_iconst (v := 0) hx hb dX10_isLent_11 (by decide) ?_
    refine lv_bipush (v := 9) hx hb dX10_isLent_12 (by decide) ?_
    refine m_calli (va_runS (As := [.int b, .int 0, .int 9]) (rest := []) ⟨hx, hb, hml, hown, hts⟩ (c_X10_in l E M H.size b 0 9) (va_cwS 3 hts gX10_isLent_X10_in rfl rfl rfl (by decide +kernel) ⟨Nat.le_of_ble_eq_true rfl, Nat.le_of_ble_eq_true rfl⟩) (m_preS hE hM) rfl rfl hl.1 rfl (lv_room (Nat.le_of_ble_eq_true rfl)) dX10_isLent_14 ⟨Nat.le_of_ble_eq_true rfl, Nat.le_of_ble_eq_true rfl⟩) hM hS hA (fun r0 u H locs hw hM hS => ?_)
    obtain ⟨e_r0, eu⟩ := hw
    rw [eu] at hM
    rw [bI_congr (in_9)] at e_r0
    subst e_r0
    refine lv_if_eq (tgt := 39) hx hb dX10_isLent_17 (by decide) (fun c_17 => ?_) (fun c_17 => ?_)
    · skip
      rw [bI_eq] at c_17
      have hz : ¬ (vB a ∧ vB b ∧ bk a.toNatClampNeg = bk b.toNatClampNeg) := na2 (na1 c_17)
      refine lv_iconst (v := 0) hx hb dX10_isLent_39 (by decide) ?_
      exact m_zret hx hb hr hlocks hM hS (Nat.le_refl _) (Nat.le_refl _) dX10_isLent_40 (by first | exact Or.inl rfl | exact Or.inr rfl) (by exact ⟨(bI_f hz).symm, hC0, hk⟩)
    · skip
      rw [bI_ne] at c_17
      obtain ⟨jb2, hjb2, hbj2, hjbc2⟩ := vB_ix c_17
      have hbin2 : vp_in b 10 := (by rw [hbj2]; exact vp_in_nI (by omega) (by decide))
      refine lv_aload_n hx hb dX10_isLent_20 rfl (lv_at hl 0 rfl) ?_
      refine m_get (ci := 8) (v := .ref b1) (C := RX10) (T := TX10) (N := 21) hx hb hts in_X10_isLent_X10 hown hE hM g_y rfl 0 (by decide) (hts (.fieldLink RX10 7 "CallWays2Model" "blocks" "[I") (by decide +kernel)) (fun _ h9 => h9) rfl dX10_isLent_21 ?_
      refine lv_iload_n hx hb dX10_isLent_24 rfl (lv_at hl 1 rfl) ?_
      refine m_iald hx hb hE hM g_b1 hbin dX10_isLent_25 ?_
      rw [show B a.toNatClampNeg = rI (bk jb) from by rw [hjbc]; exact hB jb hjb]
      refine lv_aload_n hx hb dX10_isLent_26 rfl (lv_at hl 0 rfl) ?_
      refine m_get (ci := 8) (v := .ref b1) (C := RX10) (T := TX10) (N := 21) hx hb hts in_X10_isLent_X10 hown hE hM g_y rfl 0 (by decide) (hts (.fieldLink RX10 7 "CallWays2Model" "blocks" "[I") (by decide +kernel)) (fun _ h9 => h9) rfl dX10_isLent_27 ?_
      refine lv_iload_n hx hb dX10_isLent_30 rfl (lv_at hl 2 rfl) ?_
      refine m_iald hx hb hE hM g_b1 hbin2 dX10_isLent_31 ?_
      rw [show B b.toNatClampNeg = rI (bk jb2) from by rw [hjbc2]; exact hB jb2 hjb2]
      refine lv_icmp_ne (tgt := 39) hx hb dX10_isLent_32 (by decide) (fun c_32 => ?_) (fun c_32 => ?_)
      · skip
        rw [rI_inj (h24 jb hjb) (h24 jb2 hjb2)] at c_32
        have hz : ¬ (vB a ∧ vB b ∧ bk a.toNatClampNeg = bk b.toNatClampNeg) := na2 (na2 (by rw [hjbc, hjbc2]; exact c_32))
        refine lv_iconst (v := 0) hx hb dX10_isLent_39 (by decide) ?_
        exact m_zret hx hb hr hlocks hM hS (Nat.le_refl _) (Nat.le_refl _) dX10_isLent_40 (by first | exact Or.inl rfl | exact Or.inr rfl) (by exact ⟨(bI_f hz).symm, hC0, hk⟩)
      · skip
        rw [rI_inj (h24 jb hjb) (h24 jb2 hjb2)] at c_32
        have hy9 : vB a ∧ vB b ∧ bk a.toNatClampNeg = bk b.toNatClampNeg := ⟨c_7, c_17, by rw [hjbc, hjbc2]; exact c_32⟩
        refine lv_iconst (v := 1) hx hb dX10_isLent_35 (by decide) ?_
        refine lv_goto (tgt := 40) hx hb dX10_isLent_36 (by decide) ?_
        exact m_zret hx hb hr hlocks hM hS (Nat.le_refl _) (Nat.le_refl _) dX10_isLent_40 (by first | exact Or.inl rfl | exact Or.inr rfl) (by exact ⟨(bI_t hy9).symm, hC0, hk⟩)
theorem in_X10_of_X10 : ∀ w ∈ wsX100, w ∈ wsX10_of := by decide +kernel
set_option maxHeartbeats 4000000 in
set_option maxRecDepth 100000 in
theorem c_X10_of (l : Launch) (E : mEnv) (M : mMem) (sz : Nat) (y b1 b2 b3 b4 b5 b6 b7 b8 b9 b10 b11 b12 b13 b14 b15 b16 nn nf : Nat) (ins : Nat → sIn) (fn : Nat → Int32 × Int32) (bk : Nat → Option Nat) (rw : Nat → sRw) (bd st c2 c3 c4 : Int32) (hV : Inv (nn, ins, nf, fn, bk, rw, bd, st, c2, c3, c4)) (hC : mR E M y b1 b2 b3 b4 b5 b6 b7 b8 b9 b10 b11 b12 b13 b14 b15 b16 (nn, ins, nf, fn, bk, rw, bd, st, c2, c3, c4)) (hnd : [y, b1, b2, b3, b4, b5, b6, b7, b8, b9, b10, b11, b12, b13, b14, b15, b16].Nodup) (b w0 : Int32)    : Met l yX10_of wsX10_of ({ frames := 1, cells := 0, slots := 0, locals := 22 }) (mPre E M sz [.ref y, .int b, .int w0]) (mQi E M sz (fun r u => r = aOf (nn, ins, nf, fn, bk, rw, bd, st, c2, c3, c4) b w0 ∧ mR E u y b1 b2 b3 b4 b5 b6 b7 b8 b9 b10 b11 b12 b13 b14 b15 b16 ((nn, ins, nf, fn, bk, rw, bd, st, c2, c3, c4)) ∧ kept (nol y b1 b2 b3 b4 b5 b6 b7 b8 b9 b10 b11 b12 b13 b14 b15 b16) M u)) (0) (0) (mA M sz) := by
  refine m_met [.ref y, .int b, .int w0] (by decide) rfl (Nat.le_of_ble_eq_true rfl) ?_
  intro p e s m below meth c ls H eH hx hb hr hts hown hlocks hnm hml hsz hE hM hS hA hl
  have hl : lv_has ls 4 [(0, .ref y), (1, .int b), (2, .int w0)] := hl
  have hC0 := hC
  obtain ⟨fa, B, T, LN, SZ, SM, SO, KN, PI, ON, PH, LE, KD, NM, CT, CM, MV, ⟨g_y, g_b1, g_b2, g_b3, g_b4, g_b5, g_b6, g_b7, g_b8, g_b9, g_b10, g_b11, g_b12, g_b13, g_b14, g_b15, g_b16⟩, hB, hT, hR, hN, hF, hc2, hc3, hc4⟩ := hC
  have hiK := hV.insK
  have h24t := hV.tb24
  have h40 := hV.n40
  obtain ⟨hnn, hnf, hvI, hvD, hv24, hvR, hvF⟩ := id hV
  have h24 : ∀ k, k < 10 → ∀ r, bk k = some r → r < 24 := fun k hk r hr => hv24 r (Or.inl ⟨k, hk, hr⟩)
  have hk : kept (nol y b1 b2 b3 b4 b5 b6 b7 b8 b9 b10 b11 b12 b13 b14 b15 b16) M M := kept.rf
  refine lv_iload_n hx hb dX10_of_0 rfl (lv_at hl 1 rfl) ?_
  refine lv_iconst (v := 0) hx hb dX10_of_1 (by decide) ?_
  refine lv_bipush (v := 9) hx hb dX10_of_2 (by decide) ?_
  refine m_calli (va_runS (As := [.int b, .int 0, .int 9]) (rest := []) ⟨hx, hb, hml, hown, hts⟩ (c_X10_in l E M H.size b 0 9) (va_cwS 3 hts gX10_of_X10_in rfl rfl rfl (by decide +kernel) ⟨Nat.le_of_ble_eq_true rfl, Nat.le_of_ble_eq_true rfl⟩) (m_preS hE hM) rfl rfl hl.1 rfl (lv_room (Nat.le_of_ble_eq_true rfl)) dX10_of_4 ⟨Nat.le_of_ble_eq_true rfl, Nat.le_of_ble_eq_true rfl⟩) hM hS hA (fun r0 u H locs hw hM hS => ?_)
  obtain ⟨e_r0, eu⟩ := hw
  rw [eu] at hM
  rw [bI_congr (in_9)] at e_r0
  subst e_r0
  refine lv_if_eq (tgt := 19) hx hb dX10_of_7 (by decide) (fun c_7 => ?_) (fun c_7 => ?_)
  · skip
    rw [bI_eq] at c_7
    have hz : ¬ (vB b ∧ ¬ w0 < 0 ∧ w0 ≤ 1) := na1 c_7
    refine lv_iconst (v := -1) hx hb dX10_of_19 (by decide) ?_
    exact m_iret hx hb hr hlocks hM hS (Nat.le_refl _) (Nat.le_refl _) dX10_of_20 (by exact ⟨(if_neg hz).symm, hC0, hk⟩)
  · skip
    rw [bI_ne] at c_7
    obtain ⟨jb, hjb, hbj, hjbc⟩ := vB_ix c_7
    have hbin : vp_in b 10 := (by rw [hbj]; exact vp_in_nI (by omega) (by decide))
    refine lv_iload_n hx hb dX10_of_10 rfl (lv_at hl 2 rfl) ?_
    refine lv_iconst (v := 0) hx hb dX10_of_11 (by decide) ?_
    refine lv_iconst (v := 1) hx hb dX10_of_12 (by decide) ?_
    refine m_calli (va_runS (As := [.int w0, .int 0, .int 1]) (rest := []) ⟨hx, hb, hml, hown, hts⟩ (c_X10_in l E M H.size w0 0 1) (va_cwS 3 hts gX10_of_X10_in rfl rfl rfl (by decide +kernel) ⟨Nat.le_of_ble_eq_true rfl, Nat.le_of_ble_eq_true rfl⟩) (m_preS hE hM) rfl rfl hl.1 rfl (lv_room (Nat.le_of_ble_eq_true rfl)) dX10_of_13 ⟨Nat.le_of_ble_eq_true rfl, Nat.le_of_ble_eq_true rfl⟩) hM hS hA (fun r0 u H locs hw hM hS => ?_)
    obtain ⟨e_r0, eu⟩ := hw
    rw [eu] at hM
    rw [bI_congr (in_1)] at e_r0
    subst e_r0
    refine lv_if_ne (tgt := 21) hx hb dX10_of_16 (by decide) (fun c_16 => ?_) (fun c_16 => ?_)
    · skip
      rw [bI_ne] at c_16
      refine lv_aload_n hx hb dX10_of_21 rfl (lv_at hl 0 rfl) ?_
      refine m_get (ci := 8) (v := .ref b1) (C := RX10) (T := TX10) (N := 21) hx hb hts in_X10_of_X10 hown hE hM g_y rfl 0 (by decide) (hts (.fieldLink RX10 7 "CallWays2Model" "blocks" "[I") (by decide +kernel)) (fun _ h9 => h9) rfl dX10_of_22 ?_
      refine lv_iload_n hx hb dX10_of_25 rfl (lv_at hl 1 rfl) ?_
      refine m_iald hx hb hE hM g_b1 hbin dX10_of_26 ?_
      rw [show B b.toNatClampNeg = rI (bk jb) from by rw [hjbc]; exact hB jb hjb]
      refine lv_istore_n (lv' := [(3, .int (rI (bk jb))), (0, .ref y), (1, .int b), (2, .int w0)]) hx hb dX10_of_27 rfl hl (by decide) rfl (fun ls hl => ?_)
      refine lv_iload_n hx hb dX10_of_28 rfl (lv_at hl 0 rfl) ?_
      rcases hbk : bk jb with _ | w
      · refine lv_if_ge (tgt := 37) hx hb dX10_of_29 (by decide) (fun h9 => absurd h9 (by decide)) (fun _ => ?_)
        rw [hbk] at hl
        replace hl : lv_has ls 4 [(3, .int (-1)), (0, .ref y), (1, .int b), (2, .int w0)] := hl
        refine lv_bipush (v := -5) hx hb dX10_of_32 (by decide) ?_
        refine lv_goto (tgt := 56) hx hb dX10_of_34 (by decide) ?_
        exact m_iret hx hb hr hlocks hM hS (Nat.le_refl _) (Nat.le_refl _) dX10_of_56 (by refine ⟨?_, hC0, hk⟩; show _ = (if vB b ∧ ¬ w0 < 0 ∧ w0 ≤ 1 then _ else _); rw [if_pos ⟨c_7, c_16⟩, hjbc, hbk])
      · skip
        have hlv : live nn ins bk w := Or.inl ⟨jb, hjb, hbk⟩
        rcases hrw : rw w with ⟨lane, n0, f0⟩
        obtain ⟨hLn, hSz, hSm⟩ := hR w hlv _ _ _ hrw
        have hw24 := hv24 w hlv
        obtain ⟨hn40, hlane, hvo⟩ := hvR w hlv _ _ _ hrw
        refine lv_if_ge (tgt := 37) hx hb dX10_of_29 (by decide) (fun _ => ?_) (fun h9 => absurd ((nI_leI (a := 0) (by decide) (by omega)).mpr (Nat.zero_le w)) h9)
        rw [hbk] at hl
        replace hl : lv_has ls 4 [(3, .int (nI w)), (0, .ref y), (1, .int b), (2, .int w0)] := hl
        refine lv_iload_n hx hb dX10_of_37 rfl (lv_at hl 3 rfl) ?_
        refine lv_if_ne (tgt := 50) hx hb dX10_of_38 (by decide) (fun c_38 => ?_) (fun c_38 => ?_)
        · skip
          refine lv_aload_n hx hb dX10_of_50 rfl (lv_at hl 1 rfl) ?_
          refine m_get (ci := 8) (v := .ref b4) (C := RX10) (T := TX10) (N := 21) hx hb hts in_X10_of_X10 hown hE hM g_y rfl 3 (by decide) (hts (.fieldLink RX10 19 "CallWays2Model" "sizeOf" "[I") (by decide +kernel)) (fun _ h9 => h9) rfl dX10_of_51 ?_
          refine lv_iload_n hx hb dX10_of_54 rfl (lv_at hl 0 rfl) ?_
          refine m_iald hx hb hE hM g_b4 (vp_in_nI hw24 (by decide)) dX10_of_55 ?_
          rw [show SZ (nI w).toNatClampNeg = nI n0 from by rw [nI_clamp (by omega), hSz]]
          exact m_iret hx hb hr hlocks hM hS (Nat.le_refl _) (Nat.le_refl _) dX10_of_56 (by refine ⟨?_, hC0, hk⟩; show _ = (if vB b ∧ ¬ w0 < 0 ∧ w0 ≤ 1 then _ else _); rw [if_pos ⟨c_7, c_16⟩, hjbc, hbk]; show _ = (if w0 = 0 then (rw w).1 else nI (rw w).2.1); rw [hrw]; exact (if_neg c_38).symm)
        · skip
          refine lv_aload_n hx hb dX10_of_41 rfl (lv_at hl 1 rfl) ?_
          refine m_get (ci := 8) (v := .ref b3) (C := RX10) (T := TX10) (N := 21) hx hb hts in_X10_of_X10 hown hE hM g_y rfl 2 (by decide) (hts (.fieldLink RX10 16 "CallWays2Model" "laneOf" "[I") (by decide +kernel)) (fun _ h9 => h9) rfl dX10_of_42 ?_
          refine lv_iload_n hx hb dX10_of_45 rfl (lv_at hl 0 rfl) ?_
          refine m_iald hx hb hE hM g_b3 (vp_in_nI hw24 (by decide)) dX10_of_46 ?_
          rw [show LN (nI w).toNatClampNeg = lane from by rw [nI_clamp (by omega), hLn]]
          refine lv_goto (tgt := 56) hx hb dX10_of_47 (by decide) ?_
          exact m_iret hx hb hr hlocks hM hS (Nat.le_refl _) (Nat.le_refl _) dX10_of_56 (by refine ⟨?_, hC0, hk⟩; show _ = (if vB b ∧ ¬ w0 < 0 ∧ w0 ≤ 1 then _ else _); rw [if_pos ⟨c_7, c_16⟩, hjbc, hbk]; show _ = (if w0 = 0 then (rw w).1 else nI (rw w).2.1); rw [hrw]; exact (if_pos c_38).symm)
    · skip
      rw [bI_eq] at c_16
      have hz : ¬ (vB b ∧ ¬ w0 < 0 ∧ w0 ≤ 1) := na2 c_16
      refine lv_iconst (v := -1) hx hb dX10_of_19 (by decide) ?_
      exact m_iret hx hb hr hlocks hM hS (Nat.le_refl _) (Nat.le_refl _) dX10_of_20 (by exact ⟨(if_neg hz).symm, hC0, hk⟩)
