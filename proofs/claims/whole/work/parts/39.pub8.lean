abbrev sRef (kd : Int32) (a x : UInt64) : Prop := kd = 5 ∧ FP.dcmp x a = some .eq
def sAlike (ci : Nat) (kf : Nat → Int32) (pi on : Int32) (tb : tbT) (kd : Int32) (a : UInt64) : Nat → Int32 → UInt64 → Int32
  | 0, _, _ => 1
  | n + 1, ph, le => if (sGive ci kf pi on ph le tb).1 = 0 then (if sRef kd a (sGive ci kf pi on ph le tb).2.1 then 0 else if FP.dcmp (sPass kd a (sGive ci kf pi on ph le tb).2.1) (sGive ci kf pi on ph le tb).2.1 = some .eq then sAlike ci kf pi on tb kd a n (ph + 1) (sGive ci kf pi on ph le tb).2.2 else 0) else 1
section AL
variable {ci : Nat} {kf : Nat → Int32} {pi on : Int32} {tb : tbT} {kd : Int32} {a : UInt64} {n : Nat} {ph : Int32} {le : UInt64}
theorem al_f (h : ¬ (sGive ci kf pi on ph le tb).1 = 0) : sAlike ci kf pi on tb kd a (n + 1) ph le = 1 := by
  rw [sAlike, if_neg h]
theorem al_r (h : (sGive ci kf pi on ph le tb).1 = 0) (h1 : sRef kd a (sGive ci kf pi on ph le tb).2.1) : sAlike ci kf pi on tb kd a (n + 1) ph le = 0 := by
  rw [sAlike, if_pos h, if_pos h1]
theorem al_n (h : (sGive ci kf pi on ph le tb).1 = 0) (h1 : ¬ sRef kd a (sGive ci kf pi on ph le tb).2.1) (h2 : ¬ FP.dcmp (sPass kd a (sGive ci kf pi on ph le tb).2.1) (sGive ci kf pi on ph le tb).2.1 = some .eq) : sAlike ci kf pi on tb kd a (n + 1) ph le = 0 := by
  rw [sAlike, if_pos h, if_neg h1, if_neg h2]
theorem al_y (h : (sGive ci kf pi on ph le tb).1 = 0) (h1 : ¬ sRef kd a (sGive ci kf pi on ph le tb).2.1) (h2 : FP.dcmp (sPass kd a (sGive ci kf pi on ph le tb).2.1) (sGive ci kf pi on ph le tb).2.1 = some .eq) : sAlike ci kf pi on tb kd a (n + 1) ph le = sAlike ci kf pi on tb kd a n (ph + 1) (sGive ci kf pi on ph le tb).2.2 := by
  rw [sAlike, if_pos h, if_neg h1, if_pos h2]
end AL
theorem tbAt.up {E : mEnv} {M : mMem} {tab : Option Nat} {tb : tbT} {z ci : Nat} {fs fs' : List Value} (h : tbAt E M tab tb) (hz : M z = some (mO ci fs)) (hc : insK ci) : tbAt E (mUp M z (mO ci fs')) tab tb := by
  cases tab with
  | none => cases tb with
    | none => trivial
    | some d => exact h.elim
  | some t => cases tb with
    | none => exact h.elim
    | some d =>
      obtain ⟨v, k1, k2⟩ := h
      exact ⟨v, mUp_at (m_ne k1 hz (fun q => by simp at q; exact (insK_ne hc).2.1 q.1.symm)) k1, mUp_at (m_ne k2 hz (by simp)) k2⟩
theorem in_X9_staysAlike_I : ∀ w ∈ wsX00 ++ wsX20 ++ wsX40 ++ wsX60 ++ wsX80, w ∈ wsX9_staysAlike := by decide +kernel
set_option maxHeartbeats 4000000 in
set_option maxRecDepth 100000 in
theorem c_X9_staysAlike (l : Launch) (E : mEnv) (M : mMem) (sz : Nat) (ci : Nat) (hci : insK ci) (p0 q0 fq k : Nat) (kf : Nat → Int32) (pi on ph0 fl0 kd : Int32) (le0 a : UInt64) (tab : Option Nat) (tb : tbT) (htb0 : tbAt E M tab tb) (hto : tbOK tb) (hle0 : dL le0) (ha : dB 1056 a) (hk40 : k ≤ 40) (g_p0 : M p0 = some (mO ci [.ref q0, .int pi, .int on, .int ph0, .double le0, va_rf (tab), .int fl0])) (g_q0 : M q0 = some (mI E 4 kf)) (g_fq : M fq = some (mO 2 [.int kd, .double a]))  : Met l yX9_staysAlike wsX9_staysAlike ({ frames := 4, cells := 0, slots := 0, locals := 88 }) (mPre E M sz [.ref p0, .ref fq, .int (nI k)]) (mQi E M sz (fun r u => r = sAlike ci kf pi on tb kd a k ph0 le0 ∧ ∃ (ph fl : Int32) (le : UInt64), u = mUp M p0 (mO ci [.ref q0, .int pi, .int on, .int ph, .double le, va_rf (tab), .int fl]))) (0) (0) (mA M sz) := by
  refine m_met [.ref p0, .ref fq, .int (nI k)] (by decide) rfl (Nat.le_of_ble_eq_true rfl) ?_
  intro p e s m below meth c ls H eH hx hb hr hts hown hlocks hnm hml hsz hE hM hS hA hl
  have hl : lv_has ls 6 [(0, .ref p0), (1, .ref fq), (2, .int (nI k))] := hl
  have loop : ∀ (n9 i9 : Nat) (ph fl : Int32) (le : UInt64) (Mi : mMem) (ls : Array Slot) (H : Heap) (locs : List Loc), i9 + n9 = k → sAlike ci kf pi on tb kd a k ph0 le0 = sAlike ci kf pi on tb kd a n9 ph le → dL le → Mi = mUp M p0 (mO ci [.ref q0, .int pi, .int on, .int ph, .double le, va_rf (tab), .int fl]) → mOK E.1 (mA M sz) Mi H → va_S (mA M sz) s.heap H locs → lv_has ls 6 [(3, .int (nI i9)), (0, .ref p0), (1, .ref fq), (2, .int (nI k))] → W p l e ({ frames := 4, cells := 0, slots := 0, locals := 88 } : Room) s m #[.ref p0, .ref fq, .int (nI k)] below meth c H locs 0 0 (MQ below (mQi E M sz (fun r u => r = sAlike ci kf pi on tb kd a k ph0 le0 ∧ ∃ (ph fl : Int32) (le : UInt64), u = mUp M p0 (mO ci [.ref q0, .int pi, .int on, .int ph, .double le, va_rf (tab), .int fl]))) #[.ref p0, .ref fq, .int (nI k)] s (0) (0) (mA M sz)) (F0 m 2 ls []) := by
    intro n9
    induction n9 with
    | zero =>
      intro i9 ph fl le Mi ls H locs hn9 hf9 hle eMi hM hS hl
      have hq0 : Mi q0 = some (mI E 4 kf) := by rw [eMi]; exact mUp_at (m_ne g_q0 g_p0 (by simp)) g_q0
      have hfq : Mi fq = some (mO 2 [.int kd, .double a]) := by rw [eMi]; exact mUp_at (m_ne g_fq g_p0 (fun q => by simp at q)) g_fq
      have htb : tbAt E Mi tab tb := by rw [eMi]; exact htb0.up g_p0 hci
      have hp0 : Mi p0 = some (mO ci [.ref q0, .int pi, .int on, .int ph, .double le, va_rf (tab), .int fl]) := by rw [eMi]; exact mUp_self _ _ _
      have g_q0 := hq0
      have g_fq := hfq
      have g_p0 := hp0
      refine lv_iload_n hx hb dX9_staysAlike_2 rfl (lv_at hl 0 rfl) ?_
      refine lv_iload_n hx hb dX9_staysAlike_3 rfl (lv_at hl 3 rfl) ?_
      refine lv_icmp_ge (tgt := 51) hx hb dX9_staysAlike_4 (by decide) (fun _ => ?_) (fun h9 => False.elim (by revert h9; exact (fun h => h (nI_le (by omega) (by omega)))))
      refine lv_iconst (v := 1) hx hb dX9_staysAlike_51 (by decide) ?_
      exact m_zret hx hb hr hlocks hM hS (Nat.le_refl _) (Nat.le_refl _) dX9_staysAlike_52 (by first | exact Or.inl rfl | exact Or.inr rfl) (by exact ⟨hf9.symm, _, _, _, eMi⟩)
    | succ n9 ih =>
      intro i9 ph fl le Mi ls H locs hn9 hf9 hle eMi hM hS hl
      have hq0 : Mi q0 = some (mI E 4 kf) := by rw [eMi]; exact mUp_at (m_ne g_q0 g_p0 (by simp)) g_q0
      have hfq : Mi fq = some (mO 2 [.int kd, .double a]) := by rw [eMi]; exact mUp_at (m_ne g_fq g_p0 (fun q => by simp at q)) g_fq
      have htb : tbAt E Mi tab tb := by rw [eMi]; exact htb0.up g_p0 hci
      have hp0 : Mi p0 = some (mO ci [.ref q0, .int pi, .int on, .int ph, .double le, va_rf (tab), .int fl]) := by rw [eMi]; exact mUp_self _ _ _
      have g_q0 := hq0
      have g_fq := hfq
      have g_p0 := hp0
      refine lv_iload_n hx hb dX9_staysAlike_2 rfl (lv_at hl 0 rfl) ?_
      refine lv_iload_n hx hb dX9_staysAlike_3 rfl (lv_at hl 3 rfl) ?_
      refine lv_icmp_ge (tgt := 51) hx hb dX9_staysAlike_4 (by decide) (fun h9 => False.elim (by revert h9; exact (fun h => absurd h (nI_ge (by omega) (by omega))))) (fun _ => ?_)
      refine lv_aload_n hx hb dX9_staysAlike_7 rfl (lv_at hl 1 rfl) ?_
      have hMr := hM
      have hrun : va_Run p l e ({ frames := 4, cells := 0, slots := 0, locals := 88 } : Room) s m #[.ref p0, .ref fq, .int (nI k)] below meth c H locs 0 0 0 0 (F0 m 8 ls [.ref p0]) [] (mQd E Mi H.size (fun r u => r = (sGive ci kf pi on ph le tb).2.1 ∧ u = mUp Mi p0 (mO ci [.ref q0, .int pi, .int on, .int (ph + 1), .double ((sGive ci kf pi on ph le tb).2.2), va_rf (tab), .int ((sGive ci kf pi on ph le tb).1)])) #[.ref p0]) (mA Mi H.size) := by
        rcases hci with rfl | rfl | rfl | rfl | rfl
        · exact va_runU (As := []) (rest := []) ⟨hx, hb, hml, hown, hts⟩ (c_X5_ask l E Mi H.size 0 (by unfold insK; decide) p0 q0 pi on ph le tab kf tb fl htb hle (fun d hd => by have := (hto d hd).1; omega) g_p0 g_q0) (va_cwU 0 hts gX9_staysAlike_X5_ask_u160X0 rfl rfl rfl rfl (by decide +kernel) ⟨Nat.le_of_ble_eq_true rfl, Nat.le_of_ble_eq_true rfl⟩) (m_preV hE hMr g_p0 rfl) rfl rfl hl.1 rfl (lv_room (Nat.le_of_ble_eq_true rfl)) dX9_staysAlike_8 ⟨Nat.le_of_ble_eq_true rfl, Nat.le_of_ble_eq_true rfl⟩
        · exact va_runU (As := []) (rest := []) ⟨hx, hb, hml, hown, hts⟩ (c_X5_ask l E Mi H.size 1 (by unfold insK; decide) p0 q0 pi on ph le tab kf tb fl htb hle (fun d hd => by have := (hto d hd).1; omega) g_p0 g_q0) (va_cwU 0 hts gX9_staysAlike_X5_ask_u160X2 rfl rfl rfl rfl (by decide +kernel) ⟨Nat.le_of_ble_eq_true rfl, Nat.le_of_ble_eq_true rfl⟩) (m_preV hE hMr g_p0 rfl) rfl rfl hl.1 rfl (lv_room (Nat.le_of_ble_eq_true rfl)) dX9_staysAlike_8 ⟨Nat.le_of_ble_eq_true rfl, Nat.le_of_ble_eq_true rfl⟩
        · exact va_runU (As := []) (rest := []) ⟨hx, hb, hml, hown, hts⟩ (c_X5_ask l E Mi H.size 3 (by unfold insK; decide) p0 q0 pi on ph le tab kf tb fl htb hle (fun d hd => by have := (hto d hd).1; omega) g_p0 g_q0) (va_cwU 0 hts gX9_staysAlike_X5_ask_u160X4 rfl rfl rfl rfl (by decide +kernel) ⟨Nat.le_of_ble_eq_true rfl, Nat.le_of_ble_eq_true rfl⟩) (m_preV hE hMr g_p0 rfl) rfl rfl hl.1 rfl (lv_room (Nat.le_of_ble_eq_true rfl)) dX9_staysAlike_8 ⟨Nat.le_of_ble_eq_true rfl, Nat.le_of_ble_eq_true rfl⟩
        · exact va_runU (As := []) (rest := []) ⟨hx, hb, hml, hown, hts⟩ (c_X5_ask l E Mi H.size 4 (by unfold insK; decide) p0 q0 pi on ph le tab kf tb fl htb hle (fun d hd => by have := (hto d hd).1; omega) g_p0 g_q0) (va_cwU 0 hts gX9_staysAlike_X5_ask_u160X6 rfl rfl rfl rfl (by decide +kernel) ⟨Nat.le_of_ble_eq_true rfl, Nat.le_of_ble_eq_true rfl⟩) (m_preV hE hMr g_p0 rfl) rfl rfl hl.1 rfl (lv_room (Nat.le_of_ble_eq_true rfl)) dX9_staysAlike_8 ⟨Nat.le_of_ble_eq_true rfl, Nat.le_of_ble_eq_true rfl⟩
        · exact va_runU (As := []) (rest := []) ⟨hx, hb, hml, hown, hts⟩ (c_X5_ask l E Mi H.size 6 (by unfold insK; decide) p0 q0 pi on ph le tab kf tb fl htb hle (fun d hd => by have := (hto d hd).1; omega) g_p0 g_q0) (va_cwU 0 hts gX9_staysAlike_X5_ask_u160X8 rfl rfl rfl rfl (by decide +kernel) ⟨Nat.le_of_ble_eq_true rfl, Nat.le_of_ble_eq_true rfl⟩) (m_preV hE hMr g_p0 rfl) rfl rfl hl.1 rfl (lv_room (Nat.le_of_ble_eq_true rfl)) dX9_staysAlike_8 ⟨Nat.le_of_ble_eq_true rfl, Nat.le_of_ble_eq_true rfl⟩
      refine m_calld hrun hM hS hA (fun rd M1 H locs hw hM hS => ?_)
      obtain ⟨e_rd, eM1⟩ := hw
      subst e_rd
      have g_q0_ : M1 q0 = some (mI E 4 kf) := by rw [eM1]; exact mUp_at (m_ne g_q0 g_p0 (by simp)) g_q0
      have g_fq_ : M1 fq = some (mO 2 [.int kd, .double a]) := by rw [eM1]; exact mUp_at (m_ne g_fq g_p0 (by simp)) g_fq
      have g_q0 := g_q0_
      have g_fq := g_fq_
      have g_p0 : M1 p0 = some (mO ci [.ref q0, .int pi, .int on, .int (ph + 1), .double ((sGive ci kf pi on ph le tb).2.2), va_rf (tab), .int ((sGive ci kf pi on ph le tb).1)]) := by rw [eM1]; exact mUp_self _ _ _
      have hxd := dB_give (ci := ci) (kf := kf) (pi := pi) (on := on) (ph := ph) hle hto
      refine lv_dstore (lv' := [(4, .double ((sGive ci kf pi on ph le tb).2.1)), (3, .int (nI i9)), (0, .ref p0), (1, .ref fq), (2, .int (nI k))]) hx hb dX9_staysAlike_11 hl (by decide) rfl (fun ls hl => ?_)
      refine lv_aload_n hx hb dX9_staysAlike_13 rfl (lv_at hl 2 rfl) ?_
      refine m_getI (v := .int ((sGive ci kf pi on ph le tb).1)) hx hb hts in_X9_staysAlike_I hown hE hM g_p0 hci 6 (by decide) (hts (.fieldLink RX9 164 "CallWays2$Instrument" "failure" "I") (by decide +kernel)) (fun _ h9 => h9) rfl dX9_staysAlike_14 ?_
      refine lv_if_eq (tgt := 22) hx hb dX9_staysAlike_17 (by decide) (fun c_17 => ?_) (fun c_17 => ?_)
      · skip
        refine lv_aload_n hx hb dX9_staysAlike_22 rfl (lv_at hl 3 rfl) ?_
        refine lv_dload hx hb dX9_staysAlike_23 (lv_at hl 0 rfl) ?_
        refine m_calli (va_runV (As := [.double ((sGive ci kf pi on ph le tb).2.1)]) (rest := []) ⟨hx, hb, hml, hown, hts⟩ (c_X3_refuses l E M1 H.size fq kd a (sGive ci kf pi on ph le tb).2.1 g_fq) (cwV 1 hts gX9_staysAlike_X3_refuses rfl rfl rfl (by decide +kernel) ⟨Nat.le_of_ble_eq_true rfl, Nat.le_of_ble_eq_true rfl⟩) (m_preV hE hM g_fq rfl) rfl rfl hl.1 rfl (lv_room (Nat.le_of_ble_eq_true rfl)) dX9_staysAlike_25 ⟨Nat.le_of_ble_eq_true rfl, Nat.le_of_ble_eq_true rfl⟩) hM hS hA (fun r1 u H locs hw hM hS => ?_)
        obtain ⟨e_r1, eu⟩ := hw
        rw [eu] at hM
        subst e_r1
        refine lv_if_ne (tgt := 43) hx hb dX9_staysAlike_28 (by decide) (fun c_28 => ?_) (fun c_28 => ?_)
        · skip
          rw [bI_ne] at c_28
          refine lv_iconst (v := 0) hx hb dX9_staysAlike_43 (by decide) ?_
          exact m_zret hx hb hr hlocks hM hS (Nat.le_refl _) (Nat.le_refl _) dX9_staysAlike_44 (by first | exact Or.inl rfl | exact Or.inr rfl) (by exact ⟨(hf9.trans (al_r c_17 c_28)).symm, _, _, _, by rw [eM1, eMi, mUp_up]⟩)
        · skip
          rw [bI_eq] at c_28
          refine lv_aload_n hx hb dX9_staysAlike_31 rfl (lv_at hl 3 rfl) ?_
          refine lv_dload hx hb dX9_staysAlike_32 (lv_at hl 0 rfl) ?_
          refine m_calld (va_runV (As := [.double ((sGive ci kf pi on ph le tb).2.1)]) (rest := []) ⟨hx, hb, hml, hown, hts⟩ (c_X3_pass l E M1 H.size fq kd a (sGive ci kf pi on ph le tb).2.1 (hxd.fin (by decide)) (ha.fin (by decide)) g_fq) (cwV 1 hts gX9_staysAlike_X3_pass rfl rfl rfl (by decide +kernel) ⟨Nat.le_of_ble_eq_true rfl, Nat.le_of_ble_eq_true rfl⟩) (m_preV hE hM g_fq rfl) rfl rfl hl.1 rfl (lv_room (Nat.le_of_ble_eq_true rfl)) dX9_staysAlike_34 ⟨Nat.le_of_ble_eq_true rfl, Nat.le_of_ble_eq_true rfl⟩) hM hS hA (fun r2 u H locs hw hM hS => ?_)
          obtain ⟨e_r2, eu⟩ := hw
          rw [eu] at hM
          subst e_r2
          refine lv_dload hx hb dX9_staysAlike_37 (lv_at hl 0 rfl) ?_
          refine lv_dcmp hx hb dX9_staysAlike_39 ?_
          refine lv_if_eq (tgt := 45) hx hb dX9_staysAlike_40 (by decide) (fun c_40 => ?_) (fun c_40 => ?_)
          · skip
            rw [cmpv_eq] at c_40
            refine lv_iinc (v := ((nI i9) + 1)) (lv' := [(3, .int ((nI i9) + 1)), (4, .double ((sGive ci kf pi on ph le tb).2.1)), (0, .ref p0), (1, .ref fq), (2, .int (nI k))]) hx hb dX9_staysAlike_45 hl (k := 1) rfl rfl (by decide) rfl (fun ls hl => ?_)
            refine lv_goto (tgt := 2) hx hb dX9_staysAlike_48 (by decide) ?_
            rw [nI_1] at hl
            exact ih (i9 + 1) _ _ _ M1 ls _ _ (by omega) (hf9.trans (al_y c_17 c_28 c_40)) (dL_give hle) (by rw [eM1, eMi, mUp_up]) hM hS (lv_sub hl [0, 2, 3, 4] rfl)
          · skip
            rw [cmpv_eq] at c_40
            refine lv_iconst (v := 0) hx hb dX9_staysAlike_43 (by decide) ?_
            exact m_zret hx hb hr hlocks hM hS (Nat.le_refl _) (Nat.le_refl _) dX9_staysAlike_44 (by first | exact Or.inl rfl | exact Or.inr rfl) (by exact ⟨(hf9.trans (al_n c_17 c_28 c_40)).symm, _, _, _, by rw [eM1, eMi, mUp_up]⟩)
      · skip
        refine lv_iconst (v := 1) hx hb dX9_staysAlike_20 (by decide) ?_
        exact m_zret hx hb hr hlocks hM hS (Nat.le_refl _) (Nat.le_refl _) dX9_staysAlike_21 (by first | exact Or.inl rfl | exact Or.inr rfl) (by exact ⟨(hf9.trans (al_f c_17)).symm, _, _, _, by rw [eM1, eMi, mUp_up]⟩)
  refine lv_iconst (v := 0) hx hb dX9_staysAlike_0 (by decide) ?_
  refine lv_istore_n (lv' := [(3, .int 0), (0, .ref p0), (1, .ref fq), (2, .int (nI k))]) hx hb dX9_staysAlike_1 rfl hl (by decide) rfl (fun ls hl => ?_)
  exact loop k 0 ph0 fl0 le0 M ls _ _ (by omega) rfl hle0 (mUp_id g_p0).symm hM hS (lv_sub hl [0, 1, 2, 3] rfl)
theorem alike_01 {ci : Nat} {kf : Nat → Int32} {pi on : Int32} {tb : tbT} {kd : Int32} {a : UInt64} : ∀ {n : Nat} {ph : Int32} {le : UInt64}, sAlike ci kf pi on tb kd a n ph le = 0 ∨ sAlike ci kf pi on tb kd a n ph le = 1 := by
  intro n
  induction n with
  | zero => intro ph le; exact Or.inr rfl
  | succ n ih =>
    intro ph le
    unfold sAlike
    split
    · split
      · exact Or.inl rfl
      · split
        · exact ih
        · exact Or.inl rfl
    · exact Or.inr rfl
abbrev vAg (nn nf : Nat) (i f n : Int32) : Prop := vI nn i ∧ vI nf f ∧ ¬ n < 0 ∧ n ≤ 40
def alAt (ins : Nat → sIn) (rw : Nat → sRw) (j : Nat) (p : Int32 × Int32) (k : Nat) : Int32 := match ins j with | (ci, kf, pi, on, ph, le, tb) => sAlike ci kf pi on (tb.map rw) p.1 (FP.i2d p.2) k ph le
def aAgree (σ : Sg) (i f n : Int32) : Int32 := match σ with | (nn, ins, nf, fn, _, rw, _) => if vAg nn nf i f n then alAt ins rw i.toNatClampNeg (fn f.toNatClampNeg) n.toNatClampNeg else 0
theorem in_X9_agree_I : ∀ w ∈ wsX00 ++ wsX20 ++ wsX40 ++ wsX60 ++ wsX80, w ∈ wsX9_agree := by decide +kernel
set_option maxHeartbeats 4000000 in
set_option maxRecDepth 100000 in
theorem c_X9_agree (l : Launch) (E : mEnv) (M : mMem) (sz : Nat) (NO : Nat → Prop) (x nn nf : Nat) (ins : Nat → sIn) (fn : Nat → Int32 × Int32) (bk : Nat → Option Nat) (rw : Nat → sRw) (bd st c2 c3 c4 : Int32) (hV : Inv (nn, ins, nf, fn, bk, rw, bd, st, c2, c3, c4)) (hC : cRep E M NO x (nn, ins, nf, fn, bk, rw, bd, st, c2, c3, c4)) (hO : ∀ q, NO q → M q ≠ none) (i f n : Int32)    : Met l yX9_agree wsX9_agree ({ frames := 5, cells := 0, slots := 0, locals := 113 }) (mPre E M sz [.ref x, .int i, .int f, .int n]) (mQi E M sz (fun r u => r = aAgree (nn, ins, nf, fn, bk, rw, bd, st, c2, c3, c4) i f n ∧ cRep E u NO x ((nn, ins, nf, fn, bk, rw, bd, st, c2, c3, c4)) ∧ kept NO M u)) (0) (0) (mA M sz) := by
  refine m_met [.ref x, .int i, .int f, .int n] (by decide) rfl (Nat.le_of_ble_eq_true rfl) ?_
  intro p e s m below meth c ls H eH hx hb hr hts hown hlocks hnm hml hsz hE hM hS hA hl
  have hl : lv_has ls 10 [(0, .ref x), (1, .int i), (2, .int f), (3, .int n)] := hl
  obtain ⟨a1, a2, a3, a4, fi, fb, ff, wt, ia, ib, fa, ra, rb, fl, LV, hC⟩ := hC
  have hC0 := hC.rep
  have hiK := hV.insK
  obtain ⟨hnn, hnf, hvI, hvD, hv24, hvR, hvF⟩ := id hV
  obtain ⟨⟨g_x, g_a1, g_a2, g_a3, g_a4⟩, hI, hF, hB, hL, hR, hJ, hN⟩ := id hC
  obtain ⟨⟨nx, n1, n2, n3, n4⟩, nI0, nF0, nR0⟩ := id hN
  have g_a20 := g_a2
  refine lv_aload_n hx hb dX9_agree_0 rfl (lv_at hl 0 rfl) ?_
  refine lv_iload_n hx hb dX9_agree_1 rfl (lv_at hl 1 rfl) ?_
  refine m_callq (va_runV (As := [.int i]) (rest := []) ⟨hx, hb, hml, hown, hts⟩ (c_X9_instrumentAt l E M H.size x a1 a2 a3 a4 nn nf bd st c2 c3 c4 fi fb ff wt i hnn g_x g_a1) (cwV 1 hts gX9_agree_X9_instrumentAt rfl rfl rfl (by decide +kernel) ⟨Nat.le_of_ble_eq_true rfl, Nat.le_of_ble_eq_true rfl⟩) (m_preV hE hM g_x rfl) rfl rfl hl.1 rfl (lv_room (Nat.le_of_ble_eq_true rfl)) dX9_agree_2 ⟨Nat.le_of_ble_eq_true rfl, Nat.le_of_ble_eq_true rfl⟩) hM hS hA (fun r1 u H locs hw hM hS => ?_)
  obtain ⟨e_r1, eu⟩ := hw
  rw [eu] at hM
  by_cases hv : ¬ i < 0 ∧ ¬ nI nn ≤ i
  · rw [if_pos hv] at e_r1
    obtain ⟨j, hj, hij, hjc⟩ := vI_ix hv hnn
    rw [hjc] at e_r1
    rcases hins : ins j with ⟨ci, kf, pi, on, ph, le, tb⟩
    obtain ⟨k1, g_p0, g_q0⟩ := hI j hj _ _ _ _ _ _ _ hins
    obtain ⟨hci, hle, hon⟩ := hvI j hj _ _ _ _ _ _ _ hins
    have hno := nI0 j hj
    obtain ⟨p0, ep0⟩ : ∃ z, z = ia j := ⟨_, rfl⟩
    obtain ⟨q0, eq0⟩ : ∃ z, z = ib j := ⟨_, rfl⟩
    obtain ⟨f0, ef0⟩ : ∃ z, z = fl j := ⟨_, rfl⟩
    rw [← ep0] at k1 g_p0
    rw [← eq0, ← ef0] at g_p0
    rw [← eq0] at g_q0
    rw [k1] at e_r1
    subst e_r1
    refine W.eq (g2 := F0 m 5 ls [.ref p0]) rfl ?_
    refine lv_astore (lv' := [(4, .ref p0), (0, .ref x), (1, .int i), (2, .int f), (3, .int n)]) hx hb dX9_agree_5 hl (by decide) rfl (fun ls hl => ?_)
    refine lv_aload_n hx hb dX9_agree_7 rfl (lv_at hl 1 rfl) ?_
    refine lv_iload_n hx hb dX9_agree_8 rfl (lv_at hl 3 rfl) ?_
    refine m_callq (va_runV (As := [.int f]) (rest := []) ⟨hx, hb, hml, hown, hts⟩ (c_X9_functionAt l E M H.size x a1 a2 a3 a4 nn nf bd st c2 c3 c4 fi fb ff wt f hnf g_x g_a3) (cwV 1 hts gX9_agree_X9_functionAt rfl rfl rfl (by decide +kernel) ⟨Nat.le_of_ble_eq_true rfl, Nat.le_of_ble_eq_true rfl⟩) (m_preV hE hM g_x rfl) rfl rfl hl.1 rfl (lv_room (Nat.le_of_ble_eq_true rfl)) dX9_agree_9 ⟨Nat.le_of_ble_eq_true rfl, Nat.le_of_ble_eq_true rfl⟩) hM hS hA (fun r2 u H locs hw hM hS => ?_)
    obtain ⟨e_r2, eu⟩ := hw
    rw [eu] at hM
    by_cases hvf : ¬ f < 0 ∧ ¬ nI nf ≤ f
    · rw [if_pos hvf] at e_r2
      obtain ⟨jf, hjf, hijf, hjcf⟩ := vI_ix hvf (by omega)
      rw [hjcf] at e_r2
      obtain ⟨kf1, g_fq⟩ := hF jf hjf
      have hnof := nF0 jf hjf
      obtain ⟨fq, efq⟩ : ∃ z, z = fa jf := ⟨_, rfl⟩
      rw [← efq] at kf1 g_fq
      rw [kf1] at e_r2
      subst e_r2
      refine W.eq (g2 := F0 m 12 ls [.ref fq]) rfl ?_
      refine lv_astore (lv' := [(5, .ref fq), (4, .ref p0), (0, .ref x), (1, .int i), (2, .int f), (3, .int n)]) hx hb dX9_agree_12 hl (by decide) rfl (fun ls hl => ?_)
      refine lv_aload hx hb dX9_agree_14 (lv_at hl 1 rfl) ?_
      refine lv_ifnull hx hb dX9_agree_16 ?_
      refine lv_aload hx hb dX9_agree_19 (lv_at hl 0 rfl) ?_
      refine lv_ifnull hx hb dX9_agree_21 ?_
      refine lv_iload_n hx hb dX9_agree_24 rfl (lv_at hl 5 rfl) ?_
      refine lv_if_lt (tgt := 34) hx hb dX9_agree_25 (by decide) (fun c_25 => ?_) (fun c_25 => ?_)
      · skip
        have hz : ¬ vAg nn nf i f n := na2 (na2 (na1 (not_not_intro c_25)))
        refine lv_iconst (v := 0) hx hb dX9_agree_34 (by decide) ?_
        exact m_zret hx hb hr hlocks hM hS (Nat.le_refl _) (Nat.le_refl _) dX9_agree_35 (by first | exact Or.inl rfl | exact Or.inr rfl) (by exact ⟨(if_neg hz).symm, hC0, kept.rf⟩)
      · skip
        refine lv_iload_n hx hb dX9_agree_28 rfl (lv_at hl 5 rfl) ?_
        refine lv_bipush (v := 40) hx hb dX9_agree_29 (by decide) ?_
        refine lv_icmp_le (tgt := 36) hx hb dX9_agree_31 (by decide) (fun c_31 => ?_) (fun c_31 => ?_)
        · skip
          have hok : vAg nn nf i f n := ⟨hv, hvf, c_25, c_31⟩
          refine lv_aload hx hb dX9_agree_36 (lv_at hl 1 rfl) ?_
          refine m_getI (v := .int ph) hx hb hts in_X9_agree_I hown hE hM g_p0 hci 3 (by decide) (hts (.fieldLink RX9 60 "CallWays2$Instrument" "phase" "I") (by decide +kernel)) (fun _ h9 => h9) rfl dX9_agree_38 ?_
          refine lv_istore (lv' := [(6, .int ph), (5, .ref fq), (4, .ref p0), (0, .ref x), (1, .int i), (2, .int f), (3, .int n)]) hx hb dX9_agree_41 hl (by decide) rfl (fun ls hl => ?_)
          refine lv_aload hx hb dX9_agree_43 (lv_at hl 2 rfl) ?_
          refine m_getI (v := .double le) hx hb hts in_X9_agree_I hown hE hM g_p0 hci 4 (by decide) (hts (.fieldLink RX9 141 "CallWays2$Instrument" "level" "D") (by decide +kernel)) (fun _ h9 => h9) rfl dX9_agree_45 ?_
          refine lv_dstore (lv' := [(7, .double le), (6, .int ph), (5, .ref fq), (4, .ref p0), (0, .ref x), (1, .int i), (2, .int f), (3, .int n)]) hx hb dX9_agree_48 hl (by decide) rfl (fun ls hl => ?_)
          refine lv_aload hx hb dX9_agree_50 (lv_at hl 3 rfl) ?_
          refine lv_aload hx hb dX9_agree_52 (lv_at hl 2 rfl) ?_
          refine lv_iload_n hx hb dX9_agree_54 rfl (lv_at hl 7 rfl) ?_
          obtain ⟨k, hk40, ek⟩ := nI_of2 (M := 40) (n := 40) (by decide) c_25 c_31
          subst ek
          have htb := tbAt_of (E := E) (M := M) hL hR hj (by rw [hins])
          have hto := tbOK_of hvR hj (tb := tb) (by rw [hins])
          refine m_calli (va_runS (As := [.ref p0, .ref fq, .int (nI k)]) (rest := []) ⟨hx, hb, hml, hown, hts⟩ (c_X9_staysAlike l E M H.size ci hci p0 q0 fq k kf pi on ph f0 (fn jf).1 le (FP.i2d (fn jf).2) (tb.map ra) (tb.map rw) htb hto hle (dB_i2d _) hk40 g_p0 g_q0 g_fq) (va_cwS 3 hts gX9_agree_X9_staysAlike rfl rfl rfl (by decide +kernel) ⟨Nat.le_of_ble_eq_true rfl, Nat.le_of_ble_eq_true rfl⟩) (m_preS hE hM) rfl rfl hl.1 rfl (lv_room (Nat.le_of_ble_eq_true rfl)) dX9_agree_55 ⟨Nat.le_of_ble_eq_true rfl, Nat.le_of_ble_eq_true rfl⟩) hM hS hA (fun r3 M1 H locs hw hM hS => ?_)
          obtain ⟨e_r3, ph9, fl9, le9, eM1⟩ := hw
          replace g_x : M1 x = some (mO 7 [.ref a1, .ref a2, .ref a3, .ref a4, .int (nI nn), .int (nI nf), .int bd, .int st, .int c2, .int c3, .int c4]) := by rw [eM1]; exact mUp_at (m_ne g_x g_p0 (by simp)) g_x
          replace g_a1 : M1 a1 = some (mQ E 4 12 fi) := by rw [eM1]; exact mUp_at (m_ne g_a1 g_p0 (by simp)) g_a1
          replace g_a2 : M1 a2 = some (mQ E 5 10 fb) := by rw [eM1]; exact mUp_at (m_ne g_a2 g_p0 (by simp)) g_a2
          replace g_a3 : M1 a3 = some (mQ E 6 8 ff) := by rw [eM1]; exact mUp_at (m_ne g_a3 g_p0 (by simp)) g_a3
          replace g_a4 : M1 a4 = some (mDb E 40 wt) := by rw [eM1]; exact mUp_at (m_ne g_a4 g_p0 (by simp)) g_a4
          replace g_q0 : M1 q0 = some (mI E 4 kf) := by rw [eM1]; exact mUp_at (m_ne g_q0 g_p0 (by simp)) g_q0
          replace g_fq : M1 fq = some (mO 2 [.int ((fn jf).1), .double (FP.i2d (fn jf).2)]) := by rw [eM1]; exact mUp_at (m_ne g_fq g_p0 (fun z => by simp at z)) g_fq
          replace g_p0 : M1 p0 = some (mO ci [.ref q0, .int pi, .int on, .int ph9, .double le9, va_rf (tb.map ra), .int fl9]) := by rw [eM1]; exact mUp_self _ _ _
          refine lv_istore (lv' := [(9, .int r3), (7, .double le), (6, .int ph), (5, .ref fq), (4, .ref p0), (0, .ref x), (1, .int i), (2, .int f), (3, .int (nI k))]) hx hb dX9_agree_58 hl (by decide) rfl (fun ls hl => ?_)
          refine lv_aload hx hb dX9_agree_60 (lv_at hl 4 rfl) ?_
          refine lv_iload hx hb dX9_agree_62 (lv_at hl 2 rfl) ?_
          refine lv_dload hx hb dX9_agree_64 (lv_at hl 1 rfl) ?_
          have hMr := hM
          have hrun : va_Run p l e ({ frames := 5, cells := 0, slots := 0, locals := 113 } : Room) s m #[.ref x, .int i, .int f, .int (nI k)] below meth c H locs 0 0 0 0 (F0 m 66 ls [.double le, .int ph, .ref p0]) [] (mQv E M1 H.size (fun u => u = mUp M1 p0 (mO ci [.ref q0, .int pi, .int on, .int ph, .double le, va_rf (tb.map ra), .int fl9])) #[.ref p0, .int ph, .double le]) (mA M1 H.size) := by
            rcases hci with rfl | rfl | rfl | rfl | rfl
            · exact va_runU (As := [.int ph, .double le]) (rest := []) ⟨hx, hb, hml, hown, hts⟩ (c_X5_goBack l E M1 H.size 0 (by unfold insK; decide) p0 q0 pi on (ph9) (fl9) (le9) (tb.map ra) ph le g_p0) (va_cwU 2 hts gX9_agree_X5_goBack_u149X0 rfl rfl rfl rfl (by decide +kernel) ⟨Nat.le_of_ble_eq_true rfl, Nat.le_of_ble_eq_true rfl⟩) (m_preV hE hMr g_p0 rfl) rfl rfl hl.1 rfl (lv_room (Nat.le_of_ble_eq_true rfl)) dX9_agree_66 ⟨Nat.le_of_ble_eq_true rfl, Nat.le_of_ble_eq_true rfl⟩
            · exact va_runU (As := [.int ph, .double le]) (rest := []) ⟨hx, hb, hml, hown, hts⟩ (c_X5_goBack l E M1 H.size 1 (by unfold insK; decide) p0 q0 pi on (ph9) (fl9) (le9) (tb.map ra) ph le g_p0) (va_cwU 2 hts gX9_agree_X5_goBack_u149X2 rfl rfl rfl rfl (by decide +kernel) ⟨Nat.le_of_ble_eq_true rfl, Nat.le_of_ble_eq_true rfl⟩) (m_preV hE hMr g_p0 rfl) rfl rfl hl.1 rfl (lv_room (Nat.le_of_ble_eq_true rfl)) dX9_agree_66 ⟨Nat.le_of_ble_eq_true rfl, Nat.le_of_ble_eq_true rfl⟩
            · exact va_runU (As := [.int ph, .double le]) (rest := []) ⟨hx, hb, hml, hown, hts⟩ (c_X5_goBack l E M1 H.size 3 (by unfold insK; decide) p0 q0 pi on (ph9) (fl9) (le9) (tb.map ra) ph le g_p0) (va_cwU 2 hts gX9_agree_X5_goBack_u149X4 rfl rfl rfl rfl (by decide +kernel) ⟨Nat.le_of_ble_eq_true rfl, Nat.le_of_ble_eq_true rfl⟩) (m_preV hE hMr g_p0 rfl) rfl rfl hl.1 rfl (lv_room (Nat.le_of_ble_eq_true rfl)) dX9_agree_66 ⟨Nat.le_of_ble_eq_true rfl, Nat.le_of_ble_eq_true rfl⟩
            · exact va_runU (As := [.int ph, .double le]) (rest := []) ⟨hx, hb, hml, hown, hts⟩ (c_X5_goBack l E M1 H.size 4 (by unfold insK; decide) p0 q0 pi on (ph9) (fl9) (le9) (tb.map ra) ph le g_p0) (va_cwU 2 hts gX9_agree_X5_goBack_u149X6 rfl rfl rfl rfl (by decide +kernel) ⟨Nat.le_of_ble_eq_true rfl, Nat.le_of_ble_eq_true rfl⟩) (m_preV hE hMr g_p0 rfl) rfl rfl hl.1 rfl (lv_room (Nat.le_of_ble_eq_true rfl)) dX9_agree_66 ⟨Nat.le_of_ble_eq_true rfl, Nat.le_of_ble_eq_true rfl⟩
            · exact va_runU (As := [.int ph, .double le]) (rest := []) ⟨hx, hb, hml, hown, hts⟩ (c_X5_goBack l E M1 H.size 6 (by unfold insK; decide) p0 q0 pi on (ph9) (fl9) (le9) (tb.map ra) ph le g_p0) (va_cwU 2 hts gX9_agree_X5_goBack_u149X8 rfl rfl rfl rfl (by decide +kernel) ⟨Nat.le_of_ble_eq_true rfl, Nat.le_of_ble_eq_true rfl⟩) (m_preV hE hMr g_p0 rfl) rfl rfl hl.1 rfl (lv_room (Nat.le_of_ble_eq_true rfl)) dX9_agree_66 ⟨Nat.le_of_ble_eq_true rfl, Nat.le_of_ble_eq_true rfl⟩
          refine m_callv hrun hM hS hA (fun M2 H locs hw hM hS => ?_)
          have eM2 := hw
          have g_x_ : M2 x = some (mO 7 [.ref a1, .ref a2, .ref a3, .ref a4, .int (nI nn), .int (nI nf), .int bd, .int st, .int c2, .int c3, .int c4]) := by rw [eM2]; exact mUp_at (m_ne g_x g_p0 (by simp)) g_x
          have g_a1_ : M2 a1 = some (mQ E 4 12 fi) := by rw [eM2]; exact mUp_at (m_ne g_a1 g_p0 (by simp)) g_a1
          have g_a2_ : M2 a2 = some (mQ E 5 10 fb) := by rw [eM2]; exact mUp_at (m_ne g_a2 g_p0 (by simp)) g_a2
          have g_a3_ : M2 a3 = some (mQ E 6 8 ff) := by rw [eM2]; exact mUp_at (m_ne g_a3 g_p0 (by simp)) g_a3
          have g_a4_ : M2 a4 = some (mDb E 40 wt) := by rw [eM2]; exact mUp_at (m_ne g_a4 g_p0 (by simp)) g_a4
          have g_q0_ : M2 q0 = some (mI E 4 kf) := by rw [eM2]; exact mUp_at (m_ne g_q0 g_p0 (by simp)) g_q0
          have g_fq_ : M2 fq = some (mO 2 [.int ((fn jf).1), .double (FP.i2d (fn jf).2)]) := by rw [eM2]; exact mUp_at (m_ne g_fq g_p0 (fun z => by simp at z)) g_fq
          have g_x := g_x_
          have g_a1 := g_a1_
          have g_a2 := g_a2_
          have g_a3 := g_a3_
          have g_a4 := g_a4_
          have g_q0 := g_q0_
          have g_fq := g_fq_
          have g_p0 : M2 p0 = some (mO ci [.ref q0, .int pi, .int on, .int ph, .double le, va_rf (tb.map ra), .int fl9]) := by rw [eM2]; exact mUp_self _ _ _
          refine lv_iload hx hb dX9_agree_69 (lv_at hl 0 rfl) ?_
          exact m_zret hx hb hr hlocks hM hS (Nat.le_refl _) (Nat.le_refl _) dX9_agree_71 (by rw [e_r3]; exact alike_01) (by exact ⟨(by show _ = (if vAg nn nf i f (nI k) then _ else _); rw [if_pos hok, hjc, hjcf, nI_clamp (by omega), e_r3]; unfold alAt; rw [hins]), (by rw [eM2, eM1, ep0, eq0, mUp_up]; have h1 := (hC.inst (pi' := pi) (on' := on) (ph' := ph) (le' := le) (fl' := fl9) hiK hj hins); rw [va_up_id hins] at h1; exact h1.rep), (by rw [eM2, eM1, ep0]; exact (kept.rf.up hno.1).up hno.1)⟩)
        · skip
          have hz : ¬ vAg nn nf i f n := na2 (na2 (na2 c_31))
          refine lv_iconst (v := 0) hx hb dX9_agree_34 (by decide) ?_
          exact m_zret hx hb hr hlocks hM hS (Nat.le_refl _) (Nat.le_refl _) dX9_agree_35 (by first | exact Or.inl rfl | exact Or.inr rfl) (by exact ⟨(if_neg hz).symm, hC0, kept.rf⟩)
    · rw [if_neg hvf] at e_r2
      subst e_r2
      refine W.eq (g2 := F0 m 12 ls [.null]) rfl ?_
      refine lv_astoreN (lv' := [(5, .null), (4, .ref p0), (0, .ref x), (1, .int i), (2, .int f), (3, .int n)]) hx hb dX9_agree_12 hl (by decide) rfl (fun ls hl => ?_)
      refine lv_aload hx hb dX9_agree_14 (lv_at hl 1 rfl) ?_
      refine lv_ifnull hx hb dX9_agree_16 ?_
      refine lv_aloadN hx hb dX9_agree_19 (lv_at hl 0 rfl) ?_
      refine lv_ifnullN (tgt := 34) hx hb dX9_agree_21 (by decide) ?_
      refine lv_iconst (v := 0) hx hb dX9_agree_34 (by decide) ?_
      exact m_zret hx hb hr hlocks hM hS (Nat.le_refl _) (Nat.le_refl _) dX9_agree_35 (by first | exact Or.inl rfl | exact Or.inr rfl) (by have hz : ¬ vAg nn nf i f n := na2 (na1 hvf); exact ⟨(if_neg hz).symm, hC0, kept.rf⟩)
  · rw [if_neg hv] at e_r1
    subst e_r1
    refine W.eq (g2 := F0 m 5 ls [.null]) rfl ?_
    refine lv_astoreN (lv' := [(4, .null), (0, .ref x), (1, .int i), (2, .int f), (3, .int n)]) hx hb dX9_agree_5 hl (by decide) rfl (fun ls hl => ?_)
    refine lv_aload_n hx hb dX9_agree_7 rfl (lv_at hl 1 rfl) ?_
    refine lv_iload_n hx hb dX9_agree_8 rfl (lv_at hl 3 rfl) ?_
    refine m_callq (va_runV (As := [.int f]) (rest := []) ⟨hx, hb, hml, hown, hts⟩ (c_X9_functionAt l E M H.size x a1 a2 a3 a4 nn nf bd st c2 c3 c4 fi fb ff wt f hnf g_x g_a3) (cwV 1 hts gX9_agree_X9_functionAt rfl rfl rfl (by decide +kernel) ⟨Nat.le_of_ble_eq_true rfl, Nat.le_of_ble_eq_true rfl⟩) (m_preV hE hM g_x rfl) rfl rfl hl.1 rfl (lv_room (Nat.le_of_ble_eq_true rfl)) dX9_agree_9 ⟨Nat.le_of_ble_eq_true rfl, Nat.le_of_ble_eq_true rfl⟩) hM hS hA (fun r2 u H locs hw hM hS => ?_)
    obtain ⟨e_r2, eu⟩ := hw
    rw [eu] at hM
    by_cases hvf : ¬ f < 0 ∧ ¬ nI nf ≤ f
    · rw [if_pos hvf] at e_r2
      obtain ⟨jf, hjf, hijf, hjcf⟩ := vI_ix hvf (by omega)
      rw [hjcf] at e_r2
      obtain ⟨kf1, g_fq⟩ := hF jf hjf
      have hnof := nF0 jf hjf
      obtain ⟨fq, efq⟩ : ∃ z, z = fa jf := ⟨_, rfl⟩
      rw [← efq] at kf1 g_fq
      rw [kf1] at e_r2
      subst e_r2
      refine W.eq (g2 := F0 m 12 ls [.ref fq]) rfl ?_
      refine lv_astore (lv' := [(5, .ref fq), (4, .null), (0, .ref x), (1, .int i), (2, .int f), (3, .int n)]) hx hb dX9_agree_12 hl (by decide) rfl (fun ls hl => ?_)
      refine lv_aloadN hx hb dX9_agree_14 (lv_at hl 1 rfl) ?_
      refine lv_ifnullN (tgt := 34) hx hb dX9_agree_16 (by decide) ?_
      refine lv_iconst (v := 0) hx hb dX9_agree_34 (by decide) ?_
      exact m_zret hx hb hr hlocks hM hS (Nat.le_refl _) (Nat.le_refl _) dX9_agree_35 (by first | exact Or.inl rfl | exact Or.inr rfl) (by have hz : ¬ vAg nn nf i f n := na1 hv; exact ⟨(if_neg hz).symm, hC0, kept.rf⟩)
    · rw [if_neg hvf] at e_r2
      subst e_r2
      refine W.eq (g2 := F0 m 12 ls [.null]) rfl ?_
      refine lv_astoreN (lv' := [(5, .null), (4, .null), (0, .ref x), (1, .int i), (2, .int f), (3, .int n)]) hx hb dX9_agree_12 hl (by decide) rfl (fun ls hl => ?_)
      refine lv_aloadN hx hb dX9_agree_14 (lv_at hl 1 rfl) ?_
      refine lv_ifnullN (tgt := 34) hx hb dX9_agree_16 (by decide) ?_
      refine lv_iconst (v := 0) hx hb dX9_agree_34 (by decide) ?_
      exact m_zret hx hb hr hlocks hM hS (Nat.le_refl _) (Nat.le_refl _) dX9_agree_35 (by first | exact Or.inl rfl | exact Or.inr rfl) (by have hz : ¬ vAg nn nf i f n := na1 hv; exact ⟨(if_neg hz).symm, hC0, kept.rf⟩)
