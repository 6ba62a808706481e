abbrev spn (n : Nat) (i k : Int32) : Prop := ¬ i < 0 ∧ ¬ k < 0 ∧ ¬ nI n < k ∧ ¬ nI n - k < i
theorem spn_nat {n : Nat} {i k : Int32} (hn : n ≤ 40) (h : spn n i k) : ∃ a b : Nat, i = nI a ∧ k = nI b ∧ a + b ≤ n := by
  obtain ⟨h1, h2, h3, h4⟩ := h
  obtain ⟨a, ha, rfl⟩ := nI_of h1
  obtain ⟨b, hb, rfl⟩ := nI_of h2
  rw [nI_ltI (by omega) hb] at h3
  rw [pk_sub (by omega), nI_ltI (by omega) ha] at h4
  exact ⟨a, b, rfl, rfl, by omega⟩
theorem spn_cl {n : Nat} {i k : Int32} (hn : n ≤ 40) (h : spn n i k) : i.toNatClampNeg + k.toNatClampNeg ≤ n := by
  obtain ⟨a, b, rfl, rfl, hh⟩ := spn_nat hn h
  rw [nI_clamp (by omega), nI_clamp (by omega)]
  exact hh
def sCopy (bk : Nat → Option Nat) (rw : Nat → sRw) (fr i to j k : Int32) : Int32 := if vB fr ∧ vB to then (match bk fr.toNatClampNeg, bk to.toNatClampNeg with | some r, some q => if (rw r).1 = (rw q).1 then (if spn (rw r).2.1 i k ∧ spn (rw q).2.1 j k then 0 else -7) else -9 | _, _ => -5) else -1
def rCopy (bk : Nat → Option Nat) (rw : Nat → sRw) (fr i to j k : Int32) : Nat → sRw := if sCopy bk rw fr i to j k = 0 then (match bk fr.toNatClampNeg, bk to.toNatClampNeg with | some r, some q => va_up rw q ((rw q).1, (rw q).2.1, va_cpy (rw r).2.2 (rw q).2.2 i.toNatClampNeg j.toNatClampNeg k.toNatClampNeg) | _, _ => rw) else rw
def aCopy (σ : Sg) (fr i to j k : Int32) : Int32 := match σ with | (_, _, _, _, bk, rw, _) => if sCopy bk rw fr i to j k = 0 then 1 else sCopy bk rw fr i to j k
def nCopy (σ : Sg) (fr i to j k : Int32) : Sg := match σ with | (nn, ins, nf, fn, bk, rw, bd, st, c2, c3, c4) => (nn, ins, nf, fn, bk, rCopy bk rw fr i to j k, bd, sCopy bk rw fr i to j k, c2, c3, c4)
section SC
variable {bk : Nat → Option Nat} {rw : Nat → sRw} {fr i to j k lane1 lane2 : Int32} {j1 j2 r q n1 n2 : Nat} {f1 f2 : Nat → UInt64}
theorem sCopy_b (h : ¬ (vB fr ∧ vB to)) : sCopy bk rw fr i to j k = -1 := if_neg h
theorem sCopy_n1 (h : vB fr ∧ vB to) (h1 : fr.toNatClampNeg = j1) (b1 : bk j1 = none) : sCopy bk rw fr i to j k = -5 := by
  unfold sCopy
  rw [if_pos h, h1, b1]
theorem sCopy_n2 (h : vB fr ∧ vB to) (h1 : to.toNatClampNeg = j1) (b1 : bk j1 = none) : sCopy bk rw fr i to j k = -5 := by
  unfold sCopy
  rw [if_pos h, h1, b1]
  cases bk fr.toNatClampNeg <;> rfl
theorem sCopy_s (h : vB fr ∧ vB to) (h1 : fr.toNatClampNeg = j1) (b1 : bk j1 = some r) (h2 : to.toNatClampNeg = j2) (b2 : bk j2 = some q) (e1 : rw r = (lane1, n1, f1)) (e2 : rw q = (lane2, n2, f2)) : sCopy bk rw fr i to j k = if lane1 = lane2 then (if spn n1 i k ∧ spn n2 j k then 0 else -7) else -9 := by
  unfold sCopy
  rw [if_pos h, h1, b1, h2, b2]
  show (if (rw r).1 = (rw q).1 then (if spn (rw r).2.1 i k ∧ spn (rw q).2.1 j k then (0 : Int32) else -7) else -9) = _
  rw [e1, e2]
theorem rCopy_ne (h : ¬ sCopy bk rw fr i to j k = 0) : rCopy bk rw fr i to j k = rw := if_neg h
theorem rCopy_s (h : sCopy bk rw fr i to j k = 0) (h1 : fr.toNatClampNeg = j1) (b1 : bk j1 = some r) (h2 : to.toNatClampNeg = j2) (b2 : bk j2 = some q) (e1 : rw r = (lane1, n1, f1)) (e2 : rw q = (lane2, n2, f2)) : rCopy bk rw fr i to j k = va_up rw q (lane2, n2, va_cpy f1 f2 i.toNatClampNeg j.toNatClampNeg k.toNatClampNeg) := by
  unfold rCopy
  rw [if_pos h, h1, b1, h2, b2]
  show va_up rw q ((rw q).1, (rw q).2.1, va_cpy (rw r).2.2 (rw q).2.2 _ _ _) = _
  rw [e1, e2]
end SC
theorem in_X9_copy_X7 : ∀ w ∈ wsX70, w ∈ wsX9_copy := by decide +kernel
theorem in_X9_copy_X9 : ∀ w ∈ wsX90, w ∈ wsX9_copy := by decide +kernel
set_option maxHeartbeats 4000000 in
set_option maxRecDepth 100000 in
theorem c_X9_copy (l : Launch) (E : mEnv) (M : mMem) (sz : Nat) (NO : Nat → Prop) (x nn nf : Nat) (ins : Nat → sIn) (fn : Nat → Int32 × Int32) (bk : Nat → Option Nat) (rw : Nat → sRw) (bd st c2 c3 c4 : Int32) (hV : Inv (nn, ins, nf, fn, bk, rw, bd, st, c2, c3, c4)) (hC : cRep E M NO x (nn, ins, nf, fn, bk, rw, bd, st, c2, c3, c4)) (hO : ∀ q, NO q → M q ≠ none) (fr i to jj k : Int32)    : Met l yX9_copy wsX9_copy ({ frames := 2, cells := 0, slots := 0, locals := 60 }) (mPre E M sz [.ref x, .int fr, .int i, .int to, .int jj, .int k]) (mQi E M sz (fun r u => r = aCopy (nn, ins, nf, fn, bk, rw, bd, st, c2, c3, c4) fr i to jj k ∧ cRep E u NO x (nCopy (nn, ins, nf, fn, bk, rw, bd, st, c2, c3, c4) fr i to jj k) ∧ kept NO M u)) (0) (0) (mA M sz) := by
  refine m_met [.ref x, .int fr, .int i, .int to, .int jj, .int k] (by decide) rfl (Nat.le_of_ble_eq_true rfl) ?_
  intro p e s m below meth c ls H eH hx hb hr hts hown hlocks hnm hml hsz hE hM hS hA hl
  have hl : lv_has ls 8 [(0, .ref x), (1, .int fr), (2, .int i), (3, .int to), (4, .int jj), (5, .int k)] := hl
  obtain ⟨a1, a2, a3, a4, fi, fb, ff, wt, ia, ib, fa, ra, rb, fl, LV, hC⟩ := hC
  have hC0 := hC.rep
  have hiK := hV.insK
  obtain ⟨hnn, hnf, hvI, hvD, hv24, hvR, hvF⟩ := id hV
  obtain ⟨⟨g_x, g_a1, g_a2, g_a3, g_a4⟩, hI, hF, hB, hL, hR, hJ, hN⟩ := id hC
  obtain ⟨⟨nx, n1, n2, n3, n4⟩, nI0, nF0, nR0⟩ := id hN
  refine lv_aload_n hx hb dX9_copy_0 rfl (lv_at hl 0 rfl) ?_
  refine lv_iload_n hx hb dX9_copy_1 rfl (lv_at hl 1 rfl) ?_
  refine m_callq (va_runV (As := [.int fr]) (rest := []) ⟨hx, hb, hml, hown, hts⟩ (c_X9_heldBy l E M H.size x a1 a2 a3 a4 nn nf bd st c2 c3 c4 fi fb ff wt fr g_x g_a2) (cwV 1 hts gX9_copy_X9_heldBy rfl rfl rfl (by decide +kernel) ⟨Nat.le_of_ble_eq_true rfl, Nat.le_of_ble_eq_true rfl⟩) (m_preV hE hM g_x rfl) rfl rfl hl.1 rfl (lv_room (Nat.le_of_ble_eq_true rfl)) dX9_copy_2 ⟨Nat.le_of_ble_eq_true rfl, Nat.le_of_ble_eq_true rfl⟩) hM hS hA (fun r1 u H locs hw hM hS => ?_)
  obtain ⟨e_r1, eu⟩ := hw
  rw [eu] at hM
  by_cases hv1 : ¬ fr < 0 ∧ ¬ 10 ≤ fr
  · rw [if_pos hv1] at e_r1
    obtain ⟨j1, hj1, hij1, hjc1⟩ := vB_ix hv1
    rw [hjc1, hB j1 hj1] at e_r1
    rcases hbk1 : bk j1 with _ | w1
    · rw [hbk1] at e_r1
      replace e_r1 : r1 = none := e_r1
      subst e_r1
      refine W.eq (g2 := F0 m 5 ls [.null]) rfl ?_
      refine lv_astoreN (lv' := [(6, .null), (0, .ref x), (1, .int fr), (2, .int i), (3, .int to), (4, .int jj), (5, .int k)]) hx hb dX9_copy_5 hl (by decide) rfl (fun ls hl => ?_)
      refine lv_aload_n hx hb dX9_copy_7 rfl (lv_at hl 1 rfl) ?_
      refine lv_iload_n hx hb dX9_copy_8 rfl (lv_at hl 4 rfl) ?_
      refine m_callq (va_runV (As := [.int to]) (rest := []) ⟨hx, hb, hml, hown, hts⟩ (c_X9_heldBy l E M H.size x a1 a2 a3 a4 nn nf bd st c2 c3 c4 fi fb ff wt to g_x g_a2) (cwV 1 hts gX9_copy_X9_heldBy rfl rfl rfl (by decide +kernel) ⟨Nat.le_of_ble_eq_true rfl, Nat.le_of_ble_eq_true rfl⟩) (m_preV hE hM g_x rfl) rfl rfl hl.1 rfl (lv_room (Nat.le_of_ble_eq_true rfl)) dX9_copy_9 ⟨Nat.le_of_ble_eq_true rfl, Nat.le_of_ble_eq_true rfl⟩) hM hS hA (fun r2 u H locs hw hM hS => ?_)
      obtain ⟨e_r2, eu⟩ := hw
      rw [eu] at hM
      by_cases hv2 : ¬ to < 0 ∧ ¬ 10 ≤ to
      · rw [if_pos hv2] at e_r2
        obtain ⟨j2, hj2, hij2, hjc2⟩ := vB_ix hv2
        rw [hjc2, hB j2 hj2] at e_r2
        rcases hbk2 : bk j2 with _ | w2
        · rw [hbk2] at e_r2
          replace e_r2 : r2 = none := e_r2
          subst e_r2
          refine W.eq (g2 := F0 m 12 ls [.null]) rfl ?_
          refine lv_astoreN (lv' := [(7, .null), (6, .null), (0, .ref x), (1, .int fr), (2, .int i), (3, .int to), (4, .int jj), (5, .int k)]) hx hb dX9_copy_12 hl (by decide) rfl (fun ls hl => ?_)
          refine lv_iload_n hx hb dX9_copy_14 rfl (lv_at hl 3 rfl) ?_
          refine m_calli (va_runS (As := [.int fr]) (rest := []) ⟨hx, hb, hml, hown, hts⟩ (c_X9_isBlock l E M H.size fr) (va_cwS 1 hts gX9_copy_X9_isBlock rfl rfl rfl (by decide +kernel) ⟨Nat.le_of_ble_eq_true rfl, Nat.le_of_ble_eq_true rfl⟩) (m_preS hE hM) rfl rfl hl.1 rfl (lv_room (Nat.le_of_ble_eq_true rfl)) dX9_copy_15 ⟨Nat.le_of_ble_eq_true rfl, Nat.le_of_ble_eq_true rfl⟩) hM hS hA (fun r3 u H locs hw hM hS => ?_)
          obtain ⟨e_r3, eu⟩ := hw
          rw [eu] at hM
          subst e_r3
          refine lv_if_eq (tgt := 28) hx hb dX9_copy_18 (by decide) (fun h9 => False.elim (by revert h9; exact (fun h => bI_eq.mp h hv1))) (fun _ => ?_)
          refine lv_iload_n hx hb dX9_copy_21 rfl (lv_at hl 5 rfl) ?_
          refine m_calli (va_runS (As := [.int to]) (rest := []) ⟨hx, hb, hml, hown, hts⟩ (c_X9_isBlock l E M H.size to) (va_cwS 1 hts gX9_copy_X9_isBlock rfl rfl rfl (by decide +kernel) ⟨Nat.le_of_ble_eq_true rfl, Nat.le_of_ble_eq_true rfl⟩) (m_preS hE hM) rfl rfl hl.1 rfl (lv_room (Nat.le_of_ble_eq_true rfl)) dX9_copy_22 ⟨Nat.le_of_ble_eq_true rfl, Nat.le_of_ble_eq_true rfl⟩) hM hS hA (fun r4 u H locs hw hM hS => ?_)
          obtain ⟨e_r4, eu⟩ := hw
          rw [eu] at hM
          subst e_r4
          refine lv_if_ne (tgt := 36) hx hb dX9_copy_25 (by decide) (fun _ => ?_) (fun h9 => False.elim (by revert h9; exact (fun h => bI_ne.mpr hv2 h)))
          refine lv_aloadN hx hb dX9_copy_36 (lv_at hl 1 rfl) ?_
          refine lv_ifnullN (tgt := 46) hx hb dX9_copy_38 (by decide) ?_
          refine lv_aload_n hx hb dX9_copy_46 rfl (lv_at hl 2 rfl) ?_
          refine lv_bipush (v := -5) hx hb dX9_copy_47 (by decide) ?_
          refine m_put (ci := 7) (v := .int (-5)) (ty := .int) (C := RX9) (T := TX9) (N := 11) hx hb hts in_X9_copy_X9 tyX9 tyX9_ok nmX9 hown hE hM hS g_x rfl 7 (by decide) (hts (.fieldLink RX9 53 "CallWays2" "latest" "I") (by decide +kernel)) (fun _ h9 => h9) rfl (by decide +kernel) rfl rfl (Nat.le_of_ble_eq_true rfl) dX9_copy_49 (fun H locs hM hS => ?_)
          have hM : mOK E.1 (mA M sz) (mUp M x (mO 7 [.ref a1, .ref a2, .ref a3, .ref a4, .int (nI nn), .int (nI nf), .int bd, .int (-5), .int c2, .int c3, .int c4])) H := hM
          obtain ⟨M1, eM1⟩ : ∃ z, z = mUp M x (mO 7 [.ref a1, .ref a2, .ref a3, .ref a4, .int (nI nn), .int (nI nf), .int bd, .int (-5), .int c2, .int c3, .int c4]) := ⟨_, rfl⟩
          rw [← eM1] at hM
          have g_a1_ : M1 a1 = some (mQ E 4 12 fi) := by rw [eM1]; exact mUp_at (m_ne g_a1 g_x (by simp)) g_a1
          have g_a2_ : M1 a2 = some (mQ E 5 10 fb) := by rw [eM1]; exact mUp_at (m_ne g_a2 g_x (by simp)) g_a2
          have g_a3_ : M1 a3 = some (mQ E 6 8 ff) := by rw [eM1]; exact mUp_at (m_ne g_a3 g_x (by simp)) g_a3
          have g_a4_ : M1 a4 = some (mDb E 40 wt) := by rw [eM1]; exact mUp_at (m_ne g_a4 g_x (by simp)) g_a4
          have g_a1 := g_a1_
          have g_a2 := g_a2_
          have g_a3 := g_a3_
          have g_a4 := g_a4_
          have g_x : M1 x = some (mO 7 [.ref a1, .ref a2, .ref a3, .ref a4, .int (nI nn), .int (nI nf), .int bd, .int (-5), .int c2, .int c3, .int c4]) := by rw [eM1]; exact mUp_self _ _ _
          refine lv_goto (tgt := 132) hx hb dX9_copy_52 (by decide) ?_
          refine lv_aload_n hx hb dX9_copy_132 rfl (lv_at hl 2 rfl) ?_
          refine m_get (ci := 7) (v := .int (-5)) (C := RX9) (T := TX9) (N := 11) hx hb hts in_X9_copy_X9 hown hE hM g_x rfl 7 (by decide) (hts (.fieldLink RX9 53 "CallWays2" "latest" "I") (by decide +kernel)) (fun _ h9 => h9) rfl dX9_copy_133 ?_
          refine lv_if_ne (tgt := 143) hx hb dX9_copy_136 (by decide) (fun _ => ?_) (fun h9 => absurd h9 (by decide))
          refine lv_aload_n hx hb dX9_copy_143 rfl (lv_at hl 2 rfl) ?_
          refine m_get (ci := 7) (v := .int (-5)) (C := RX9) (T := TX9) (N := 11) hx hb hts in_X9_copy_X9 hown hE hM g_x rfl 7 (by decide) (hts (.fieldLink RX9 53 "CallWays2" "latest" "I") (by decide +kernel)) (fun _ h9 => h9) rfl dX9_copy_144 ?_
          exact m_iret hx hb hr hlocks hM hS (Nat.le_refl _) (Nat.le_refl _) dX9_copy_147 (by have hsc : sCopy bk rw fr i to jj k = -5 := sCopy_n1 ⟨hv1, hv2⟩ hjc1 hbk1; exact ⟨(by show _ = (if sCopy bk rw fr i to jj k = 0 then _ else _); rw [hsc]; rfl), (by show cRep E _ NO x (nn, ins, nf, fn, bk, rCopy bk rw fr i to jj k, bd, sCopy bk rw fr i to jj k, c2, c3, c4); rw [rCopy_ne (by rw [hsc]; decide), hsc, eM1]; exact (hC.scal hiK).rep), (by rw [eM1]; exact kx nx)⟩)
        · rw [hbk2] at e_r2
          replace e_r2 : r2 = some (ra w2) := e_r2
          have hlv2 : live nn ins bk w2 := Or.inl ⟨j2, hj2, hbk2⟩
          rcases hrw2 : rw w2 with ⟨lane2, n2, f2⟩
          obtain ⟨g_s2, g_v2, hva2⟩ := hR w2 (hL w2 hlv2) _ _ _ hrw2
          obtain ⟨hn2, hlane2, hvo2⟩ := hvR w2 hlv2 _ _ _ hrw2
          have hnr2 := nR0 w2 (hL w2 hlv2)
          obtain ⟨s2, es2⟩ : ∃ z, z = ra w2 := ⟨_, rfl⟩
          obtain ⟨v2, ev2⟩ : ∃ z, z = rb w2 := ⟨_, rfl⟩
          rw [← es2, ← ev2] at g_s2
          rw [← ev2] at g_v2 hva2
          rw [← es2] at e_r2
          subst e_r2
          refine W.eq (g2 := F0 m 12 ls [.ref s2]) rfl ?_
          refine lv_astore (lv' := [(7, .ref s2), (6, .null), (0, .ref x), (1, .int fr), (2, .int i), (3, .int to), (4, .int jj), (5, .int k)]) hx hb dX9_copy_12 hl (by decide) rfl (fun ls hl => ?_)
          refine lv_iload_n hx hb dX9_copy_14 rfl (lv_at hl 3 rfl) ?_
          refine m_calli (va_runS (As := [.int fr]) (rest := []) ⟨hx, hb, hml, hown, hts⟩ (c_X9_isBlock l E M H.size fr) (va_cwS 1 hts gX9_copy_X9_isBlock rfl rfl rfl (by decide +kernel) ⟨Nat.le_of_ble_eq_true rfl, Nat.le_of_ble_eq_true rfl⟩) (m_preS hE hM) rfl rfl hl.1 rfl (lv_room (Nat.le_of_ble_eq_true rfl)) dX9_copy_15 ⟨Nat.le_of_ble_eq_true rfl, Nat.le_of_ble_eq_true rfl⟩) hM hS hA (fun r3 u H locs hw hM hS => ?_)
          obtain ⟨e_r3, eu⟩ := hw
          rw [eu] at hM
          subst e_r3
          refine lv_if_eq (tgt := 28) hx hb dX9_copy_18 (by decide) (fun h9 => False.elim (by revert h9; exact (fun h => bI_eq.mp h hv1))) (fun _ => ?_)
          refine lv_iload_n hx hb dX9_copy_21 rfl (lv_at hl 5 rfl) ?_
          refine m_calli (va_runS (As := [.int to]) (rest := []) ⟨hx, hb, hml, hown, hts⟩ (c_X9_isBlock l E M H.size to) (va_cwS 1 hts gX9_copy_X9_isBlock rfl rfl rfl (by decide +kernel) ⟨Nat.le_of_ble_eq_true rfl, Nat.le_of_ble_eq_true rfl⟩) (m_preS hE hM) rfl rfl hl.1 rfl (lv_room (Nat.le_of_ble_eq_true rfl)) dX9_copy_22 ⟨Nat.le_of_ble_eq_true rfl, Nat.le_of_ble_eq_true rfl⟩) hM hS hA (fun r4 u H locs hw hM hS => ?_)
          obtain ⟨e_r4, eu⟩ := hw
          rw [eu] at hM
          subst e_r4
          refine lv_if_ne (tgt := 36) hx hb dX9_copy_25 (by decide) (fun _ => ?_) (fun h9 => False.elim (by revert h9; exact (fun h => bI_ne.mpr hv2 h)))
          refine lv_aloadN hx hb dX9_copy_36 (lv_at hl 1 rfl) ?_
          refine lv_ifnullN (tgt := 46) hx hb dX9_copy_38 (by decide) ?_
          refine lv_aload_n hx hb dX9_copy_46 rfl (lv_at hl 2 rfl) ?_
          refine lv_bipush (v := -5) hx hb dX9_copy_47 (by decide) ?_
          refine m_put (ci := 7) (v := .int (-5)) (ty := .int) (C := RX9) (T := TX9) (N := 11) hx hb hts in_X9_copy_X9 tyX9 tyX9_ok nmX9 hown hE hM hS g_x rfl 7 (by decide) (hts (.fieldLink RX9 53 "CallWays2" "latest" "I") (by decide +kernel)) (fun _ h9 => h9) rfl (by decide +kernel) rfl rfl (Nat.le_of_ble_eq_true rfl) dX9_copy_49 (fun H locs hM hS => ?_)
          have hM : mOK E.1 (mA M sz) (mUp M x (mO 7 [.ref a1, .ref a2, .ref a3, .ref a4, .int (nI nn), .int (nI nf), .int bd, .int (-5), .int c2, .int c3, .int c4])) H := hM
          obtain ⟨M2, eM2⟩ : ∃ z, z = mUp M x (mO 7 [.ref a1, .ref a2, .ref a3, .ref a4, .int (nI nn), .int (nI nf), .int bd, .int (-5), .int c2, .int c3, .int c4]) := ⟨_, rfl⟩
          rw [← eM2] at hM
          have g_a1_ : M2 a1 = some (mQ E 4 12 fi) := by rw [eM2]; exact mUp_at (m_ne g_a1 g_x (by simp)) g_a1
          have g_a2_ : M2 a2 = some (mQ E 5 10 fb) := by rw [eM2]; exact mUp_at (m_ne g_a2 g_x (by simp)) g_a2
          have g_a3_ : M2 a3 = some (mQ E 6 8 ff) := by rw [eM2]; exact mUp_at (m_ne g_a3 g_x (by simp)) g_a3
          have g_a4_ : M2 a4 = some (mDb E 40 wt) := by rw [eM2]; exact mUp_at (m_ne g_a4 g_x (by simp)) g_a4
          have g_s2_ : M2 s2 = some (mO 5 [.int lane2, .ref v2]) := by rw [eM2]; exact mUp_at (Ne.symm (m_ne g_x g_s2 (by simp))) g_s2
          have g_v2_ : M2 v2 = some (mDb E n2 f2) := by rw [eM2]; exact mUp_at (m_ne g_v2 g_x (by simp)) g_v2
          have g_a1 := g_a1_
          have g_a2 := g_a2_
          have g_a3 := g_a3_
          have g_a4 := g_a4_
          have g_s2 := g_s2_
          have g_v2 := g_v2_
          have g_x : M2 x = some (mO 7 [.ref a1, .ref a2, .ref a3, .ref a4, .int (nI nn), .int (nI nf), .int bd, .int (-5), .int c2, .int c3, .int c4]) := by rw [eM2]; exact mUp_self _ _ _
          refine lv_goto (tgt := 132) hx hb dX9_copy_52 (by decide) ?_
          refine lv_aload_n hx hb dX9_copy_132 rfl (lv_at hl 2 rfl) ?_
          refine m_get (ci := 7) (v := .int (-5)) (C := RX9) (T := TX9) (N := 11) hx hb hts in_X9_copy_X9 hown hE hM g_x rfl 7 (by decide) (hts (.fieldLink RX9 53 "CallWays2" "latest" "I") (by decide +kernel)) (fun _ h9 => h9) rfl dX9_copy_133 ?_
          refine lv_if_ne (tgt := 143) hx hb dX9_copy_136 (by decide) (fun _ => ?_) (fun h9 => absurd h9 (by decide))
          refine lv_aload_n hx hb dX9_copy_143 rfl (lv_at hl 2 rfl) ?_
          refine m_get (ci := 7) (v := .int (-5)) (C := RX9) (T := TX9) (N := 11) hx hb hts in_X9_copy_X9 hown hE hM g_x rfl 7 (by decide) (hts (.fieldLink RX9 53 "CallWays2" "latest" "I") (by decide +kernel)) (fun _ h9 => h9) rfl dX9_copy_144 ?_
          exact m_iret hx hb hr hlocks hM hS (Nat.le_refl _) (Nat.le_refl _) dX9_copy_147 (by have hsc : sCopy bk rw fr i to jj k = -5 := sCopy_n1 ⟨hv1, hv2⟩ hjc1 hbk1; exact ⟨(by show _ = (if sCopy bk rw fr i to jj k = 0 then _ else _); rw [hsc]; rfl), (by show cRep E _ NO x (nn, ins, nf, fn, bk, rCopy bk rw fr i to jj k, bd, sCopy bk rw fr i to jj k, c2, c3, c4); rw [rCopy_ne (by rw [hsc]; decide), hsc, eM2]; exact (hC.scal hiK).rep), (by rw [eM2]; exact kx nx)⟩)
      · rw [if_neg hv2] at e_r2
        subst e_r2
        refine W.eq (g2 := F0 m 12 ls [.null]) rfl ?_
        refine lv_astoreN (lv' := [(7, .null), (6, .null), (0, .ref x), (1, .int fr), (2, .int i), (3, .int to), (4, .int jj), (5, .int k)]) hx hb dX9_copy_12 hl (by decide) rfl (fun ls hl => ?_)
        refine lv_iload_n hx hb dX9_copy_14 rfl (lv_at hl 3 rfl) ?_
        refine m_calli (va_runS (As := [.int fr]) (rest := []) ⟨hx, hb, hml, hown, hts⟩ (c_X9_isBlock l E M H.size fr) (va_cwS 1 hts gX9_copy_X9_isBlock rfl rfl rfl (by decide +kernel) ⟨Nat.le_of_ble_eq_true rfl, Nat.le_of_ble_eq_true rfl⟩) (m_preS hE hM) rfl rfl hl.1 rfl (lv_room (Nat.le_of_ble_eq_true rfl)) dX9_copy_15 ⟨Nat.le_of_ble_eq_true rfl, Nat.le_of_ble_eq_true rfl⟩) hM hS hA (fun r3 u H locs hw hM hS => ?_)
        obtain ⟨e_r3, eu⟩ := hw
        rw [eu] at hM
        subst e_r3
        refine lv_if_eq (tgt := 28) hx hb dX9_copy_18 (by decide) (fun h9 => False.elim (by revert h9; exact (fun h => bI_eq.mp h hv1))) (fun _ => ?_)
        refine lv_iload_n hx hb dX9_copy_21 rfl (lv_at hl 5 rfl) ?_
        refine m_calli (va_runS (As := [.int to]) (rest := []) ⟨hx, hb, hml, hown, hts⟩ (c_X9_isBlock l E M H.size to) (va_cwS 1 hts gX9_copy_X9_isBlock rfl rfl rfl (by decide +kernel) ⟨Nat.le_of_ble_eq_true rfl, Nat.le_of_ble_eq_true rfl⟩) (m_preS hE hM) rfl rfl hl.1 rfl (lv_room (Nat.le_of_ble_eq_true rfl)) dX9_copy_22 ⟨Nat.le_of_ble_eq_true rfl, Nat.le_of_ble_eq_true rfl⟩) hM hS hA (fun r4 u H locs hw hM hS => ?_)
        obtain ⟨e_r4, eu⟩ := hw
        rw [eu] at hM
        subst e_r4
        refine lv_if_ne (tgt := 36) hx hb dX9_copy_25 (by decide) (fun h9 => False.elim (by revert h9; exact (fun h => hv2 (bI_ne.mp h)))) (fun _ => ?_)
        refine lv_aload_n hx hb dX9_copy_28 rfl (lv_at hl 2 rfl) ?_
        refine lv_iconst (v := -1) hx hb dX9_copy_29 (by decide) ?_
        refine m_put (ci := 7) (v := .int (-1)) (ty := .int) (C := RX9) (T := TX9) (N := 11) hx hb hts in_X9_copy_X9 tyX9 tyX9_ok nmX9 hown hE hM hS g_x rfl 7 (by decide) (hts (.fieldLink RX9 53 "CallWays2" "latest" "I") (by decide +kernel)) (fun _ h9 => h9) rfl (by decide +kernel) rfl rfl (Nat.le_of_ble_eq_true rfl) dX9_copy_30 (fun H locs hM hS => ?_)
        have hM : mOK E.1 (mA M sz) (mUp M x (mO 7 [.ref a1, .ref a2, .ref a3, .ref a4, .int (nI nn), .int (nI nf), .int bd, .int (-1), .int c2, .int c3, .int c4])) H := hM
        obtain ⟨M3, eM3⟩ : ∃ z, z = mUp M x (mO 7 [.ref a1, .ref a2, .ref a3, .ref a4, .int (nI nn), .int (nI nf), .int bd, .int (-1), .int c2, .int c3, .int c4]) := ⟨_, rfl⟩
        rw [← eM3] at hM
        have g_a1_ : M3 a1 = some (mQ E 4 12 fi) := by rw [eM3]; exact mUp_at (m_ne g_a1 g_x (by simp)) g_a1
        have g_a2_ : M3 a2 = some (mQ E 5 10 fb) := by rw [eM3]; exact mUp_at (m_ne g_a2 g_x (by simp)) g_a2
        have g_a3_ : M3 a3 = some (mQ E 6 8 ff) := by rw [eM3]; exact mUp_at (m_ne g_a3 g_x (by simp)) g_a3
        have g_a4_ : M3 a4 = some (mDb E 40 wt) := by rw [eM3]; exact mUp_at (m_ne g_a4 g_x (by simp)) g_a4
        have g_a1 := g_a1_
        have g_a2 := g_a2_
        have g_a3 := g_a3_
        have g_a4 := g_a4_
        have g_x : M3 x = some (mO 7 [.ref a1, .ref a2, .ref a3, .ref a4, .int (nI nn), .int (nI nf), .int bd, .int (-1), .int c2, .int c3, .int c4]) := by rw [eM3]; exact mUp_self _ _ _
        refine lv_goto (tgt := 132) hx hb dX9_copy_33 (by decide) ?_
        refine lv_aload_n hx hb dX9_copy_132 rfl (lv_at hl 2 rfl) ?_
        refine m_get (ci := 7) (v := .int (-1)) (C := RX9) (T := TX9) (N := 11) hx hb hts in_X9_copy_X9 hown hE hM g_x rfl 7 (by decide) (hts (.fieldLink RX9 53 "CallWays2" "latest" "I") (by decide +kernel)) (fun _ h9 => h9) rfl dX9_copy_133 ?_
        refine lv_if_ne (tgt := 143) hx hb dX9_copy_136 (by decide) (fun _ => ?_) (fun h9 => absurd h9 (by decide))
        refine lv_aload_n hx hb dX9_copy_143 rfl (lv_at hl 2 rfl) ?_
        refine m_get (ci := 7) (v := .int (-1)) (C := RX9) (T := TX9) (N := 11) hx hb hts in_X9_copy_X9 hown hE hM g_x rfl 7 (by decide) (hts (.fieldLink RX9 53 "CallWays2" "latest" "I") (by decide +kernel)) (fun _ h9 => h9) rfl dX9_copy_144 ?_
        exact m_iret hx hb hr hlocks hM hS (Nat.le_refl _) (Nat.le_refl _) dX9_copy_147 (by have hsc : sCopy bk rw fr i to jj k = -1 := sCopy_b (na2 hv2); exact ⟨(by show _ = (if sCopy bk rw fr i to jj k = 0 then _ else _); rw [hsc]; rfl), (by show cRep E _ NO x (nn, ins, nf, fn, bk, rCopy bk rw fr i to jj k, bd, sCopy bk rw fr i to jj k, c2, c3, c4); rw [rCopy_ne (by rw [hsc]; decide), hsc, eM3]; exact (hC.scal hiK).rep), (by rw [eM3]; exact kx nx)⟩)
    · rw [hbk1] at e_r1
      replace e_r1 : r1 = some (ra w1) := e_r1
      have hlv1 : live nn ins bk w1 := Or.inl ⟨j1, hj1, hbk1⟩
      rcases hrw1 : rw w1 with ⟨lane1, n1, f1⟩
      obtain ⟨g_s1, g_v1, hva1⟩ := hR w1 (hL w1 hlv1) _ _ _ hrw1
      obtain ⟨hn1, hlane1, hvo1⟩ := hvR w1 hlv1 _ _ _ hrw1
      have hnr1 := nR0 w1 (hL w1 hlv1)
      obtain ⟨s1, es1⟩ : ∃ z, z = ra w1 := ⟨_, rfl⟩
      obtain ⟨v1, ev1⟩ : ∃ z, z = rb w1 := ⟨_, rfl⟩
      rw [← es1, ← ev1] at g_s1
      rw [← ev1] at g_v1 hva1
      rw [← es1] at e_r1
      subst e_r1
      refine W.eq (g2 := F0 m 5 ls [.ref s1]) rfl ?_
      refine lv_astore (lv' := [(6, .ref s1), (0, .ref x), (1, .int fr), (2, .int i), (3, .int to), (4, .int jj), (5, .int k)]) hx hb dX9_copy_5 hl (by decide) rfl (fun ls hl => ?_)
      refine lv_aload_n hx hb dX9_copy_7 rfl (lv_at hl 1 rfl) ?_
      refine lv_iload_n hx hb dX9_copy_8 rfl (lv_at hl 4 rfl) ?_
      refine m_callq (va_runV (As := [.int to]) (rest := []) ⟨hx, hb, hml, hown, hts⟩ (c_X9_heldBy l E M H.size x a1 a2 a3 a4 nn nf bd st c2 c3 c4 fi fb ff wt to g_x g_a2) (cwV 1 hts gX9_copy_X9_heldBy rfl rfl rfl (by decide +kernel) ⟨Nat.le_of_ble_eq_true rfl, Nat.le_of_ble_eq_true rfl⟩) (m_preV hE hM g_x rfl) rfl rfl hl.1 rfl (lv_room (Nat.le_of_ble_eq_true rfl)) dX9_copy_9 ⟨Nat.le_of_ble_eq_true rfl, Nat.le_of_ble_eq_true rfl⟩) hM hS hA (fun r2 u H locs hw hM hS => ?_)
      obtain ⟨e_r2, eu⟩ := hw
      rw [eu] at hM
      by_cases hv2 : ¬ to < 0 ∧ ¬ 10 ≤ to
      · rw [if_pos hv2] at e_r2
        obtain ⟨j2, hj2, hij2, hjc2⟩ := vB_ix hv2
        rw [hjc2, hB j2 hj2] at e_r2
        rcases hbk2 : bk j2 with _ | w2
        · rw [hbk2] at e_r2
          replace e_r2 : r2 = none := e_r2
          subst e_r2
          refine W.eq (g2 := F0 m 12 ls [.null]) rfl ?_
          refine lv_astoreN (lv' := [(7, .null), (6, .ref s1), (0, .ref x), (1, .int fr), (2, .int i), (3, .int to), (4, .int jj), (5, .int k)]) hx hb dX9_copy_12 hl (by decide) rfl (fun ls hl => ?_)
          refine lv_iload_n hx hb dX9_copy_14 rfl (lv_at hl 3 rfl) ?_
          refine m_calli (va_runS (As := [.int fr]) (rest := []) ⟨hx, hb, hml, hown, hts⟩ (c_X9_isBlock l E M H.size fr) (va_cwS 1 hts gX9_copy_X9_isBlock rfl rfl rfl (by decide +kernel) ⟨Nat.le_of_ble_eq_true rfl, Nat.le_of_ble_eq_true rfl⟩) (m_preS hE hM) rfl rfl hl.1 rfl (lv_room (Nat.le_of_ble_eq_true rfl)) dX9_copy_15 ⟨Nat.le_of_ble_eq_true rfl, Nat.le_of_ble_eq_true rfl⟩) hM hS hA (fun r3 u H locs hw hM hS => ?_)
          obtain ⟨e_r3, eu⟩ := hw
          rw [eu] at hM
          subst e_r3
          refine lv_if_eq (tgt := 28) hx hb dX9_copy_18 (by decide) (fun h9 => False.elim (by revert h9; exact (fun h => bI_eq.mp h hv1))) (fun _ => ?_)
          refine lv_iload_n hx hb dX9_copy_21 rfl (lv_at hl 5 rfl) ?_
          refine m_calli (va_runS (As := [.int to]) (rest := []) ⟨hx, hb, hml, hown, hts⟩ (c_X9_isBlock l E M H.size to) (va_cwS 1 hts gX9_copy_X9_isBlock rfl rfl rfl (by decide +kernel) ⟨Nat.le_of_ble_eq_true rfl, Nat.le_of_ble_eq_true rfl⟩) (m_preS hE hM) rfl rfl hl.1 rfl (lv_room (Nat.le_of_ble_eq_true rfl)) dX9_copy_22 ⟨Nat.le_of_ble_eq_true rfl, Nat.le_of_ble_eq_true rfl⟩) hM hS hA (fun r4 u H locs hw hM hS => ?_)
          obtain ⟨e_r4, eu⟩ := hw
          rw [eu] at hM
          subst e_r4
          refine lv_if_ne (tgt := 36) hx hb dX9_copy_25 (by decide) (fun _ => ?_) (fun h9 => False.elim (by revert h9; exact (fun h => bI_ne.mpr hv2 h)))
          refine lv_aload hx hb dX9_copy_36 (lv_at hl 1 rfl) ?_
          refine lv_ifnull hx hb dX9_copy_38 ?_
          refine lv_aloadN hx hb dX9_copy_41 (lv_at hl 0 rfl) ?_
          refine lv_ifnonnullN hx hb dX9_copy_43 ?_
          refine lv_aload_n hx hb dX9_copy_46 rfl (lv_at hl 2 rfl) ?_
          refine lv_bipush (v := -5) hx hb dX9_copy_47 (by decide) ?_
          refine m_put (ci := 7) (v := .int (-5)) (ty := .int) (C := RX9) (T := TX9) (N := 11) hx hb hts in_X9_copy_X9 tyX9 tyX9_ok nmX9 hown hE hM hS g_x rfl 7 (by decide) (hts (.fieldLink RX9 53 "CallWays2" "latest" "I") (by decide +kernel)) (fun _ h9 => h9) rfl (by decide +kernel) rfl rfl (Nat.le_of_ble_eq_true rfl) dX9_copy_49 (fun H locs hM hS => ?_)
          have hM : mOK E.1 (mA M sz) (mUp M x (mO 7 [.ref a1, .ref a2, .ref a3, .ref a4, .int (nI nn), .int (nI nf), .int bd, .int (-5), .int c2, .int c3, .int c4])) H := hM
          obtain ⟨M4, eM4⟩ : ∃ z, z = mUp M x (mO 7 [.ref a1, .ref a2, .ref a3, .ref a4, .int (nI nn), .int (nI nf), .int bd, .int (-5), .int c2, .int c3, .int c4]) := ⟨_, rfl⟩
          rw [← eM4] at hM
          have g_a1_ : M4 a1 = some (mQ E 4 12 fi) := by rw [eM4]; exact mUp_at (m_ne g_a1 g_x (by simp)) g_a1
          have g_a2_ : M4 a2 = some (mQ E 5 10 fb) := by rw [eM4]; exact mUp_at (m_ne g_a2 g_x (by simp)) g_a2
          have g_a3_ : M4 a3 = some (mQ E 6 8 ff) := by rw [eM4]; exact mUp_at (m_ne g_a3 g_x (by simp)) g_a3
          have g_a4_ : M4 a4 = some (mDb E 40 wt) := by rw [eM4]; exact mUp_at (m_ne g_a4 g_x (by simp)) g_a4
          have g_s1_ : M4 s1 = some (mO 5 [.int lane1, .ref v1]) := by rw [eM4]; exact mUp_at (Ne.symm (m_ne g_x g_s1 (by simp))) g_s1
          have g_v1_ : M4 v1 = some (mDb E n1 f1) := by rw [eM4]; exact mUp_at (m_ne g_v1 g_x (by simp)) g_v1
          have g_a1 := g_a1_
          have g_a2 := g_a2_
          have g_a3 := g_a3_
          have g_a4 := g_a4_
          have g_s1 := g_s1_
          have g_v1 := g_v1_
          have g_x : M4 x = some (mO 7 [.ref a1, .ref a2, .ref a3, .ref a4, .int (nI nn), .int (nI nf), .int bd, .int (-5), .int c2, .int c3, .int c4]) := by rw [eM4]; exact mUp_self _ _ _
          refine lv_goto (tgt := 132) hx hb dX9_copy_52 (by decide) ?_
          refine lv_aload_n hx hb dX9_copy_132 rfl (lv_at hl 2 rfl) ?_
          refine m_get (ci := 7) (v := .int (-5)) (C := RX9) (T := TX9) (N := 11) hx hb hts in_X9_copy_X9 hown hE hM g_x rfl 7 (by decide) (hts (.fieldLink RX9 53 "CallWays2" "latest" "I") (by decide +kernel)) (fun _ h9 => h9) rfl dX9_copy_133 ?_
          refine lv_if_ne (tgt := 143) hx hb dX9_copy_136 (by decide) (fun _ => ?_) (fun h9 => absurd h9 (by decide))
          refine lv_aload_n hx hb dX9_copy_143 rfl (lv_at hl 2 rfl) ?_
          refine m_get (ci := 7) (v := .int (-5)) (C := RX9) (T := TX9) (N := 11) hx hb hts in_X9_copy_X9 hown hE hM g_x rfl 7 (by decide) (hts (.fieldLink RX9 53 "CallWays2" "latest" "I") (by decide +kernel)) (fun _ h9 => h9) rfl dX9_copy_144 ?_
          exact m_iret hx hb hr hlocks hM hS (Nat.le_refl _) (Nat.le_refl _) dX9_copy_147 (by have hsc : sCopy bk rw fr i to jj k = -5 := sCopy_n2 ⟨hv1, hv2⟩ hjc2 hbk2; exact ⟨(by show _ = (if sCopy bk rw fr i to jj k = 0 then _ else _); rw [hsc]; rfl), (by show cRep E _ NO x (nn, ins, nf, fn, bk, rCopy bk rw fr i to jj k, bd, sCopy bk rw fr i to jj k, c2, c3, c4); rw [rCopy_ne (by rw [hsc]; decide), hsc, eM4]; exact (hC.scal hiK).rep), (by rw [eM4]; exact kx nx)⟩)
        · rw [hbk2] at e_r2
          replace e_r2 : r2 = some (ra w2) := e_r2
          have hlv2 : live nn ins bk w2 := Or.inl ⟨j2, hj2, hbk2⟩
          rcases hrw2 : rw w2 with ⟨lane2, n2, f2⟩
          obtain ⟨g_s2, g_v2, hva2⟩ := hR w2 (hL w2 hlv2) _ _ _ hrw2
          obtain ⟨hn2, hlane2, hvo2⟩ := hvR w2 hlv2 _ _ _ hrw2
          have hnr2 := nR0 w2 (hL w2 hlv2)
          obtain ⟨s2, es2⟩ : ∃ z, z = ra w2 := ⟨_, rfl⟩
          obtain ⟨v2, ev2⟩ : ∃ z, z = rb w2 := ⟨_, rfl⟩
          rw [← es2, ← ev2] at g_s2
          rw [← ev2] at g_v2 hva2
          rw [← es2] at e_r2
          subst e_r2
          refine W.eq (g2 := F0 m 12 ls [.ref s2]) rfl ?_
          refine lv_astore (lv' := [(7, .ref s2), (6, .ref s1), (0, .ref x), (1, .int fr), (2, .int i), (3, .int to), (4, .int jj), (5, .int k)]) hx hb dX9_copy_12 hl (by decide) rfl (fun ls hl => ?_)
          refine lv_iload_n hx hb dX9_copy_14 rfl (lv_at hl 3 rfl) ?_
          refine m_calli (va_runS (As := [.int fr]) (rest := []) ⟨hx, hb, hml, hown, hts⟩ (c_X9_isBlock l E M H.size fr) (va_cwS 1 hts gX9_copy_X9_isBlock rfl rfl rfl (by decide +kernel) ⟨Nat.le_of_ble_eq_true rfl, Nat.le_of_ble_eq_true rfl⟩) (m_preS hE hM) rfl rfl hl.1 rfl (lv_room (Nat.le_of_ble_eq_true rfl)) dX9_copy_15 ⟨Nat.le_of_ble_eq_true rfl, Nat.le_of_ble_eq_true rfl⟩) hM hS hA (fun r3 u H locs hw hM hS => ?_)
          obtain ⟨e_r3, eu⟩ := hw
          rw [eu] at hM
          subst e_r3
          refine lv_if_eq (tgt := 28) hx hb dX9_copy_18 (by decide) (fun h9 => False.elim (by revert h9; exact (fun h => bI_eq.mp h hv1))) (fun _ => ?_)
          refine lv_iload_n hx hb dX9_copy_21 rfl (lv_at hl 5 rfl) ?_
          refine m_calli (va_runS (As := [.int to]) (rest := []) ⟨hx, hb, hml, hown, hts⟩ (c_X9_isBlock l E M H.size to) (va_cwS 1 hts gX9_copy_X9_isBlock rfl rfl rfl (by decide +kernel) ⟨Nat.le_of_ble_eq_true rfl, Nat.le_of_ble_eq_true rfl⟩) (m_preS hE hM) rfl rfl hl.1 rfl (lv_room (Nat.le_of_ble_eq_true rfl)) dX9_copy_22 ⟨Nat.le_of_ble_eq_true rfl, Nat.le_of_ble_eq_true rfl⟩) hM hS hA (fun r4 u H locs hw hM hS => ?_)
          obtain ⟨e_r4, eu⟩ := hw
          rw [eu] at hM
          subst e_r4
          refine lv_if_ne (tgt := 36) hx hb dX9_copy_25 (by decide) (fun _ => ?_) (fun h9 => False.elim (by revert h9; exact (fun h => bI_ne.mpr hv2 h)))
          refine lv_aload hx hb dX9_copy_36 (lv_at hl 1 rfl) ?_
          refine lv_ifnull hx hb dX9_copy_38 ?_
          refine lv_aload hx hb dX9_copy_41 (lv_at hl 0 rfl) ?_
          refine lv_ifnonnull (tgt := 55) hx hb dX9_copy_43 (by decide) ?_
          refine lv_aload hx hb dX9_copy_55 (lv_at hl 1 rfl) ?_
          refine m_get (ci := 5) (v := .int lane1) (C := RX7) (T := TX7) (N := 2) hx hb hts in_X9_copy_X7 hown hE hM g_s1 rfl 0 (by decide) (hts (.fieldLink RX9 85 "CallWays2$Samples" "lane" "I") (by decide +kernel)) (fun _ h9 => h9) rfl dX9_copy_57 ?_
          refine lv_aload hx hb dX9_copy_60 (lv_at hl 0 rfl) ?_
          refine m_get (ci := 5) (v := .int lane2) (C := RX7) (T := TX7) (N := 2) hx hb hts in_X9_copy_X7 hown hE hM g_s2 rfl 0 (by decide) (hts (.fieldLink RX9 85 "CallWays2$Samples" "lane" "I") (by decide +kernel)) (fun _ h9 => h9) rfl dX9_copy_62 ?_
          refine lv_icmp_eq (tgt := 77) hx hb dX9_copy_65 (by decide) (fun c_65 => ?_) (fun c_65 => ?_)
          · skip
            refine lv_aload hx hb dX9_copy_77 (lv_at hl 1 rfl) ?_
            refine lv_iload_n hx hb dX9_copy_79 rfl (lv_at hl 4 rfl) ?_
            refine lv_iload hx hb dX9_copy_80 (lv_at hl 7 rfl) ?_
            refine m_calli (va_runV (As := [.int i, .int k]) (rest := []) ⟨hx, hb, hml, hown, hts⟩ (c_X7_spans l E M H.size s1 v1 n1 lane1 f1 i k g_s1 g_v1) (cwV 2 hts gX9_copy_X7_spans rfl rfl rfl (by decide +kernel) ⟨Nat.le_of_ble_eq_true rfl, Nat.le_of_ble_eq_true rfl⟩) (m_preV hE hM g_s1 rfl) rfl rfl hl.1 rfl (lv_room (Nat.le_of_ble_eq_true rfl)) dX9_copy_82 ⟨Nat.le_of_ble_eq_true rfl, Nat.le_of_ble_eq_true rfl⟩) hM hS hA (fun r5 u H locs hw hM hS => ?_)
            obtain ⟨e_r5, eu⟩ := hw
            rw [eu] at hM
            subst e_r5
            refine lv_if_eq (tgt := 100) hx hb dX9_copy_85 (by decide) (fun c_85 => ?_) (fun c_85 => ?_)
            · skip
              rw [bI_eq] at c_85
              refine lv_aload_n hx hb dX9_copy_100 rfl (lv_at hl 2 rfl) ?_
              refine lv_bipush (v := -7) hx hb dX9_copy_101 (by decide) ?_
              refine m_put (ci := 7) (v := .int (-7)) (ty := .int) (C := RX9) (T := TX9) (N := 11) hx hb hts in_X9_copy_X9 tyX9 tyX9_ok nmX9 hown hE hM hS g_x rfl 7 (by decide) (hts (.fieldLink RX9 53 "CallWays2" "latest" "I") (by decide +kernel)) (fun _ h9 => h9) rfl (by decide +kernel) rfl rfl (Nat.le_of_ble_eq_true rfl) dX9_copy_103 (fun H locs hM hS => ?_)
              have hM : mOK E.1 (mA M sz) (mUp M x (mO 7 [.ref a1, .ref a2, .ref a3, .ref a4, .int (nI nn), .int (nI nf), .int bd, .int (-7), .int c2, .int c3, .int c4])) H := hM
              obtain ⟨M5, eM5⟩ : ∃ z, z = mUp M x (mO 7 [.ref a1, .ref a2, .ref a3, .ref a4, .int (nI nn), .int (nI nf), .int bd, .int (-7), .int c2, .int c3, .int c4]) := ⟨_, rfl⟩
              rw [← eM5] at hM
              have g_a1_ : M5 a1 = some (mQ E 4 12 fi) := by rw [eM5]; exact mUp_at (m_ne g_a1 g_x (by simp)) g_a1
              have g_a2_ : M5 a2 = some (mQ E 5 10 fb) := by rw [eM5]; exact mUp_at (m_ne g_a2 g_x (by simp)) g_a2
              have g_a3_ : M5 a3 = some (mQ E 6 8 ff) := by rw [eM5]; exact mUp_at (m_ne g_a3 g_x (by simp)) g_a3
              have g_a4_ : M5 a4 = some (mDb E 40 wt) := by rw [eM5]; exact mUp_at (m_ne g_a4 g_x (by simp)) g_a4
              have g_s1_ : M5 s1 = some (mO 5 [.int lane1, .ref v1]) := by rw [eM5]; exact mUp_at (Ne.symm (m_ne g_x g_s1 (by simp))) g_s1
              have g_v1_ : M5 v1 = some (mDb E n1 f1) := by rw [eM5]; exact mUp_at (m_ne g_v1 g_x (by simp)) g_v1
              have g_s2_ : M5 s2 = some (mO 5 [.int lane2, .ref v2]) := by rw [eM5]; exact mUp_at (Ne.symm (m_ne g_x g_s2 (by simp))) g_s2
              have g_v2_ : M5 v2 = some (mDb E n2 f2) := by rw [eM5]; exact mUp_at (m_ne g_v2 g_x (by simp)) g_v2
              have g_a1 := g_a1_
              have g_a2 := g_a2_
              have g_a3 := g_a3_
              have g_a4 := g_a4_
              have g_s1 := g_s1_
              have g_v1 := g_v1_
              have g_s2 := g_s2_
              have g_v2 := g_v2_
              have g_x : M5 x = some (mO 7 [.ref a1, .ref a2, .ref a3, .ref a4, .int (nI nn), .int (nI nf), .int bd, .int (-7), .int c2, .int c3, .int c4]) := by rw [eM5]; exact mUp_self _ _ _
              refine lv_goto (tgt := 132) hx hb dX9_copy_106 (by decide) ?_
              refine lv_aload_n hx hb dX9_copy_132 rfl (lv_at hl 2 rfl) ?_
              refine m_get (ci := 7) (v := .int (-7)) (C := RX9) (T := TX9) (N := 11) hx hb hts in_X9_copy_X9 hown hE hM g_x rfl 7 (by decide) (hts (.fieldLink RX9 53 "CallWays2" "latest" "I") (by decide +kernel)) (fun _ h9 => h9) rfl dX9_copy_133 ?_
              refine lv_if_ne (tgt := 143) hx hb dX9_copy_136 (by decide) (fun _ => ?_) (fun h9 => absurd h9 (by decide))
              refine lv_aload_n hx hb dX9_copy_143 rfl (lv_at hl 2 rfl) ?_
              refine m_get (ci := 7) (v := .int (-7)) (C := RX9) (T := TX9) (N := 11) hx hb hts in_X9_copy_X9 hown hE hM g_x rfl 7 (by decide) (hts (.fieldLink RX9 53 "CallWays2" "latest" "I") (by decide +kernel)) (fun _ h9 => h9) rfl dX9_copy_144 ?_
              exact m_iret hx hb hr hlocks hM hS (Nat.le_refl _) (Nat.le_refl _) dX9_copy_147 (by have hsc : sCopy bk rw fr i to jj k = -7 := (by rw [sCopy_s ⟨hv1, hv2⟩ hjc1 hbk1 hjc2 hbk2 hrw1 hrw2, if_pos c_65, if_neg (na1 c_85)]); exact ⟨(by show _ = (if sCopy bk rw fr i to jj k = 0 then _ else _); rw [hsc]; rfl), (by show cRep E _ NO x (nn, ins, nf, fn, bk, rCopy bk rw fr i to jj k, bd, sCopy bk rw fr i to jj k, c2, c3, c4); rw [rCopy_ne (by rw [hsc]; decide), hsc, eM5]; exact (hC.scal hiK).rep), (by rw [eM5]; exact kx nx)⟩)
            · skip
              rw [bI_ne] at c_85
              refine lv_aload hx hb dX9_copy_88 (lv_at hl 0 rfl) ?_
              refine lv_iload hx hb dX9_copy_90 (lv_at hl 6 rfl) ?_
              refine lv_iload hx hb dX9_copy_92 (lv_at hl 7 rfl) ?_
              refine m_calli (va_runV (As := [.int jj, .int k]) (rest := []) ⟨hx, hb, hml, hown, hts⟩ (c_X7_spans l E M H.size s2 v2 n2 lane2 f2 jj k g_s2 g_v2) (cwV 2 hts gX9_copy_X7_spans rfl rfl rfl (by decide +kernel) ⟨Nat.le_of_ble_eq_true rfl, Nat.le_of_ble_eq_true rfl⟩) (m_preV hE hM g_s2 rfl) rfl rfl hl.1 rfl (lv_room (Nat.le_of_ble_eq_true rfl)) dX9_copy_94 ⟨Nat.le_of_ble_eq_true rfl, Nat.le_of_ble_eq_true rfl⟩) hM hS hA (fun r6 u H locs hw hM hS => ?_)
              obtain ⟨e_r6, eu⟩ := hw
              rw [eu] at hM
              subst e_r6
              refine lv_if_ne (tgt := 109) hx hb dX9_copy_97 (by decide) (fun c_97 => ?_) (fun c_97 => ?_)
              · skip
                rw [bI_ne] at c_97
                refine lv_aload hx hb dX9_copy_109 (lv_at hl 1 rfl) ?_
                refine m_get (ci := 5) (v := .ref v1) (C := RX7) (T := TX7) (N := 2) hx hb hts in_X9_copy_X7 hown hE hM g_s1 rfl 1 (by decide) (hts (.fieldLink RX9 88 "CallWays2$Samples" "values" "[D") (by decide +kernel)) (fun _ h9 => h9) rfl dX9_copy_111 ?_
                refine lv_iload_n hx hb dX9_copy_114 rfl (lv_at hl 4 rfl) ?_
                refine lv_aload hx hb dX9_copy_115 (lv_at hl 0 rfl) ?_
                refine m_get (ci := 5) (v := .ref v2) (C := RX7) (T := TX7) (N := 2) hx hb hts in_X9_copy_X7 hown hE hM g_s2 rfl 1 (by decide) (hts (.fieldLink RX9 88 "CallWays2$Samples" "values" "[D") (by decide +kernel)) (fun _ h9 => h9) rfl dX9_copy_117 ?_
                refine lv_iload hx hb dX9_copy_120 (lv_at hl 6 rfl) ?_
                refine lv_iload hx hb dX9_copy_122 (lv_at hl 7 rfl) ?_
                refine m_copyD hx hb (hml.trans hl.1.symm) hown (hts (.methodLink RX9 107 arraycopyName) (by decide +kernel)) (hts (.native arraycopyName) (by decide +kernel)) (hts (.static arraycopyName) (by decide +kernel)) (hts (.initialized "java/lang/System") (by decide +kernel)) hE hM hS g_v1 g_v2 c_85.1 c_97.1 c_85.2.1 (spn_cl hn1 c_85) (spn_cl hn2 c_97) (Nat.le_of_ble_eq_true rfl) (by decide) dX9_copy_124 (fun H locs hM hS => ?_)
                have hM : mOK E.1 (mA M sz) (mUp M v2 (mDb E n2 (va_cpy f1 f2 i.toNatClampNeg jj.toNatClampNeg k.toNatClampNeg))) H := hM
                obtain ⟨M6, eM6⟩ : ∃ z, z = mUp M v2 (mDb E n2 (va_cpy f1 f2 i.toNatClampNeg jj.toNatClampNeg k.toNatClampNeg)) := ⟨_, rfl⟩
                rw [← eM6] at hM
                have g_x_ : M6 x = some (mO 7 [.ref a1, .ref a2, .ref a3, .ref a4, .int (nI nn), .int (nI nf), .int bd, .int st, .int c2, .int c3, .int c4]) := by rw [eM6]; exact mUp_at (m_ne g_x g_v2 (by simp)) g_x
                have g_a1_ : M6 a1 = some (mQ E 4 12 fi) := by rw [eM6]; exact mUp_at (m_ne g_a1 g_v2 (by simp)) g_a1
                have g_a2_ : M6 a2 = some (mQ E 5 10 fb) := by rw [eM6]; exact mUp_at (m_ne g_a2 g_v2 (by simp)) g_a2
                have g_a3_ : M6 a3 = some (mQ E 6 8 ff) := by rw [eM6]; exact mUp_at (m_ne g_a3 g_v2 (by simp)) g_a3
                have g_a4_ : M6 a4 = some (mDb E 40 wt) := by rw [eM6]; exact mUp_at (Ne.symm hva2) g_a4
                have g_s2_ : M6 s2 = some (mO 5 [.int lane2, .ref v2]) := by rw [eM6]; exact mUp_at (m_ne g_s2 g_v2 (by simp)) g_s2
                have g_x := g_x_
                have g_a1 := g_a1_
                have g_a2 := g_a2_
                have g_a3 := g_a3_
                have g_a4 := g_a4_
                have g_s2 := g_s2_
                have g_v2 : M6 v2 = some (mDb E n2 (va_cpy f1 f2 i.toNatClampNeg jj.toNatClampNeg k.toNatClampNeg)) := by rw [eM6]; exact mUp_self _ _ _
                refine lv_aload_n hx hb dX9_copy_127 rfl (lv_at hl 2 rfl) ?_
                refine lv_iconst (v := 0) hx hb dX9_copy_128 (by decide) ?_
                refine m_put (ci := 7) (v := .int 0) (ty := .int) (C := RX9) (T := TX9) (N := 11) hx hb hts in_X9_copy_X9 tyX9 tyX9_ok nmX9 hown hE hM hS g_x rfl 7 (by decide) (hts (.fieldLink RX9 53 "CallWays2" "latest" "I") (by decide +kernel)) (fun _ h9 => h9) rfl (by decide +kernel) rfl rfl (Nat.le_of_ble_eq_true rfl) dX9_copy_129 (fun H locs hM hS => ?_)
                have hM : mOK E.1 (mA M sz) (mUp M6 x (mO 7 [.ref a1, .ref a2, .ref a3, .ref a4, .int (nI nn), .int (nI nf), .int bd, .int 0, .int c2, .int c3, .int c4])) H := hM
                obtain ⟨M7, eM7⟩ : ∃ z, z = mUp M6 x (mO 7 [.ref a1, .ref a2, .ref a3, .ref a4, .int (nI nn), .int (nI nf), .int bd, .int 0, .int c2, .int c3, .int c4]) := ⟨_, rfl⟩
                rw [← eM7] at hM
                have g_a1_ : M7 a1 = some (mQ E 4 12 fi) := by rw [eM7]; exact mUp_at (m_ne g_a1 g_x (by simp)) g_a1
                have g_a2_ : M7 a2 = some (mQ E 5 10 fb) := by rw [eM7]; exact mUp_at (m_ne g_a2 g_x (by simp)) g_a2
                have g_a3_ : M7 a3 = some (mQ E 6 8 ff) := by rw [eM7]; exact mUp_at (m_ne g_a3 g_x (by simp)) g_a3
                have g_a4_ : M7 a4 = some (mDb E 40 wt) := by rw [eM7]; exact mUp_at (m_ne g_a4 g_x (by simp)) g_a4
                have g_s2_ : M7 s2 = some (mO 5 [.int lane2, .ref v2]) := by rw [eM7]; exact mUp_at (Ne.symm (m_ne g_x g_s2 (by simp))) g_s2
                have g_v2_ : M7 v2 = some (mDb E n2 (va_cpy f1 f2 i.toNatClampNeg jj.toNatClampNeg k.toNatClampNeg)) := by rw [eM7]; exact mUp_at (m_ne g_v2 g_x (by simp)) g_v2
                have g_a1 := g_a1_
                have g_a2 := g_a2_
                have g_a3 := g_a3_
                have g_a4 := g_a4_
                have g_s2 := g_s2_
                have g_v2 := g_v2_
                have g_x : M7 x = some (mO 7 [.ref a1, .ref a2, .ref a3, .ref a4, .int (nI nn), .int (nI nf), .int bd, .int 0, .int c2, .int c3, .int c4]) := by rw [eM7]; exact mUp_self _ _ _
                refine lv_aload_n hx hb dX9_copy_132 rfl (lv_at hl 2 rfl) ?_
                refine m_get (ci := 7) (v := .int 0) (C := RX9) (T := TX9) (N := 11) hx hb hts in_X9_copy_X9 hown hE hM g_x rfl 7 (by decide) (hts (.fieldLink RX9 53 "CallWays2" "latest" "I") (by decide +kernel)) (fun _ h9 => h9) rfl dX9_copy_133 ?_
                refine lv_if_ne (tgt := 143) hx hb dX9_copy_136 (by decide) (fun h9 => absurd rfl h9) (fun _ => ?_)
                refine lv_iconst (v := 1) hx hb dX9_copy_139 (by decide) ?_
                refine lv_goto (tgt := 147) hx hb dX9_copy_140 (by decide) ?_
                exact m_iret hx hb hr hlocks hM hS (Nat.le_refl _) (Nat.le_refl _) dX9_copy_147 (by have hsc : sCopy bk rw fr i to jj k = 0 := (by rw [sCopy_s ⟨hv1, hv2⟩ hjc1 hbk1 hjc2 hbk2 hrw1 hrw2, if_pos c_65, if_pos ⟨c_85, c_97⟩]); exact ⟨(by show _ = (if sCopy bk rw fr i to jj k = 0 then _ else _); rw [hsc]; rfl), (by show cRep E _ NO x (nn, ins, nf, fn, bk, rCopy bk rw fr i to jj k, bd, sCopy bk rw fr i to jj k, c2, c3, c4); rw [rCopy_s hsc hjc1 hbk1 hjc2 hbk2 hrw1 hrw2, hsc, eM7, eM6, ev2]; exact ((hC.row hiK (hL w2 hlv2) hrw2).scal hiK).rep), (by rw [eM7, eM6, ev2]; exact (kx hnr2.2).up nx)⟩)
              · skip
                rw [bI_eq] at c_97
                refine lv_aload_n hx hb dX9_copy_100 rfl (lv_at hl 2 rfl) ?_
                refine lv_bipush (v := -7) hx hb dX9_copy_101 (by decide) ?_
                refine m_put (ci := 7) (v := .int (-7)) (ty := .int) (C := RX9) (T := TX9) (N := 11) hx hb hts in_X9_copy_X9 tyX9 tyX9_ok nmX9 hown hE hM hS g_x rfl 7 (by decide) (hts (.fieldLink RX9 53 "CallWays2" "latest" "I") (by decide +kernel)) (fun _ h9 => h9) rfl (by decide +kernel) rfl rfl (Nat.le_of_ble_eq_true rfl) dX9_copy_103 (fun H locs hM hS => ?_)
                have hM : mOK E.1 (mA M sz) (mUp M x (mO 7 [.ref a1, .ref a2, .ref a3, .ref a4, .int (nI nn), .int (nI nf), .int bd, .int (-7), .int c2, .int c3, .int c4])) H := hM
                obtain ⟨M8, eM8⟩ : ∃ z, z = mUp M x (mO 7 [.ref a1, .ref a2, .ref a3, .ref a4, .int (nI nn), .int (nI nf), .int bd, .int (-7), .int c2, .int c3, .int c4]) := ⟨_, rfl⟩
                rw [← eM8] at hM
                have g_a1_ : M8 a1 = some (mQ E 4 12 fi) := by rw [eM8]; exact mUp_at (m_ne g_a1 g_x (by simp)) g_a1
                have g_a2_ : M8 a2 = some (mQ E 5 10 fb) := by rw [eM8]; exact mUp_at (m_ne g_a2 g_x (by simp)) g_a2
                have g_a3_ : M8 a3 = some (mQ E 6 8 ff) := by rw [eM8]; exact mUp_at (m_ne g_a3 g_x (by simp)) g_a3
                have g_a4_ : M8 a4 = some (mDb E 40 wt) := by rw [eM8]; exact mUp_at (m_ne g_a4 g_x (by simp)) g_a4
                have g_s1_ : M8 s1 = some (mO 5 [.int lane1, .ref v1]) := by rw [eM8]; exact mUp_at (Ne.symm (m_ne g_x g_s1 (by simp))) g_s1
                have g_v1_ : M8 v1 = some (mDb E n1 f1) := by rw [eM8]; exact mUp_at (m_ne g_v1 g_x (by simp)) g_v1
                have g_s2_ : M8 s2 = some (mO 5 [.int lane2, .ref v2]) := by rw [eM8]; exact mUp_at (Ne.symm (m_ne g_x g_s2 (by simp))) g_s2
                have g_v2_ : M8 v2 = some (mDb E n2 f2) := by rw [eM8]; exact mUp_at (m_ne g_v2 g_x (by simp)) g_v2
                have g_a1 := g_a1_
                have g_a2 := g_a2_
                have g_a3 := g_a3_
                have g_a4 := g_a4_
                have g_s1 := g_s1_
                have g_v1 := g_v1_
                have g_s2 := g_s2_
                have g_v2 := g_v2_
                have g_x : M8 x = some (mO 7 [.ref a1, .ref a2, .ref a3, .ref a4, .int (nI nn), .int (nI nf), .int bd, .int (-7), .int c2, .int c3, .int c4]) := by rw [eM8]; exact mUp_self _ _ _
                refine lv_goto (tgt := 132) hx hb dX9_copy_106 (by decide) ?_
                refine lv_aload_n hx hb dX9_copy_132 rfl (lv_at hl 2 rfl) ?_
                refine m_get (ci := 7) (v := .int (-7)) (C := RX9) (T := TX9) (N := 11) hx hb hts in_X9_copy_X9 hown hE hM g_x rfl 7 (by decide) (hts (.fieldLink RX9 53 "CallWays2" "latest" "I") (by decide +kernel)) (fun _ h9 => h9) rfl dX9_copy_133 ?_
                refine lv_if_ne (tgt := 143) hx hb dX9_copy_136 (by decide) (fun _ => ?_) (fun h9 => absurd h9 (by decide))
                refine lv_aload_n hx hb dX9_copy_143 rfl (lv_at hl 2 rfl) ?_
                refine m_get (ci := 7) (v := .int (-7)) (C := RX9) (T := TX9) (N := 11) hx hb hts in_X9_copy_X9 hown hE hM g_x rfl 7 (by decide) (hts (.fieldLink RX9 53 "CallWays2" "latest" "I") (by decide +kernel)) (fun _ h9 => h9) rfl dX9_copy_144 ?_
                exact m_iret hx hb hr hlocks hM hS (Nat.le_refl _) (Nat.le_refl _) dX9_copy_147 (by have hsc : sCopy bk rw fr i to jj k = -7 := (by rw [sCopy_s ⟨hv1, hv2⟩ hjc1 hbk1 hjc2 hbk2 hrw1 hrw2, if_pos c_65, if_neg (na2 c_97)]); exact ⟨(by show _ = (if sCopy bk rw fr i to jj k = 0 then _ else _); rw [hsc]; rfl), (by show cRep E _ NO x (nn, ins, nf, fn, bk, rCopy bk rw fr i to jj k, bd, sCopy bk rw fr i to jj k, c2, c3, c4); rw [rCopy_ne (by rw [hsc]; decide), hsc, eM8]; exact (hC.scal hiK).rep), (by rw [eM8]; exact kx nx)⟩)
          · skip
            refine lv_aload_n hx hb dX9_copy_68 rfl (lv_at hl 2 rfl) ?_
            refine lv_bipush (v := -9) hx hb dX9_copy_69 (by decide) ?_
            refine m_put (ci := 7) (v := .int (-9)) (ty := .int) (C := RX9) (T := TX9) (N := 11) hx hb hts in_X9_copy_X9 tyX9 tyX9_ok nmX9 hown hE hM hS g_x rfl 7 (by decide) (hts (.fieldLink RX9 53 "CallWays2" "latest" "I") (by decide +kernel)) (fun _ h9 => h9) rfl (by decide +kernel) rfl rfl (Nat.le_of_ble_eq_true rfl) dX9_copy_71 (fun H locs hM hS => ?_)
            have hM : mOK E.1 (mA M sz) (mUp M x (mO 7 [.ref a1, .ref a2, .ref a3, .ref a4, .int (nI nn), .int (nI nf), .int bd, .int (-9), .int c2, .int c3, .int c4])) H := hM
            obtain ⟨M9, eM9⟩ : ∃ z, z = mUp M x (mO 7 [.ref a1, .ref a2, .ref a3, .ref a4, .int (nI nn), .int (nI nf), .int bd, .int (-9), .int c2, .int c3, .int c4]) := ⟨_, rfl⟩
            rw [← eM9] at hM
            have g_a1_ : M9 a1 = some (mQ E 4 12 fi) := by rw [eM9]; exact mUp_at (m_ne g_a1 g_x (by simp)) g_a1
            have g_a2_ : M9 a2 = some (mQ E 5 10 fb) := by rw [eM9]; exact mUp_at (m_ne g_a2 g_x (by simp)) g_a2
            have g_a3_ : M9 a3 = some (mQ E 6 8 ff) := by rw [eM9]; exact mUp_at (m_ne g_a3 g_x (by simp)) g_a3
            have g_a4_ : M9 a4 = some (mDb E 40 wt) := by rw [eM9]; exact mUp_at (m_ne g_a4 g_x (by simp)) g_a4
            have g_s1_ : M9 s1 = some (mO 5 [.int lane1, .ref v1]) := by rw [eM9]; exact mUp_at (Ne.symm (m_ne g_x g_s1 (by simp))) g_s1
            have g_v1_ : M9 v1 = some (mDb E n1 f1) := by rw [eM9]; exact mUp_at (m_ne g_v1 g_x (by simp)) g_v1
            have g_s2_ : M9 s2 = some (mO 5 [.int lane2, .ref v2]) := by rw [eM9]; exact mUp_at (Ne.symm (m_ne g_x g_s2 (by simp))) g_s2
            have g_v2_ : M9 v2 = some (mDb E n2 f2) := by rw [eM9]; exact mUp_at (m_ne g_v2 g_x (by simp)) g_v2
            have g_a1 := g_a1_
            have g_a2 := g_a2_
            have g_a3 := g_a3_
            have g_a4 := g_a4_
            have g_s1 := g_s1_
            have g_v1 := g_v1_
            have g_s2 := g_s2_
            have g_v2 := g_v2_
            have g_x : M9 x = some (mO 7 [.ref a1, .ref a2, .ref a3, .ref a4, .int (nI nn), .int (nI nf), .int bd, .int (-9), .int c2, .int c3, .int c4]) := by rw [eM9]; exact mUp_self _ _ _
            refine lv_goto (tgt := 132) hx hb dX9_copy_74 (by decide) ?_
            refine lv_aload_n hx hb dX9_copy_132 rfl (lv_at hl 2 rfl) ?_
            refine m_get (ci := 7) (v := .int (-9)) (C := RX9) (T := TX9) (N := 11) hx hb hts in_X9_copy_X9 hown hE hM g_x rfl 7 (by decide) (hts (.fieldLink RX9 53 "CallWays2" "latest" "I") (by decide +kernel)) (fun _ h9 => h9) rfl dX9_copy_133 ?_
            refine lv_if_ne (tgt := 143) hx hb dX9_copy_136 (by decide) (fun _ => ?_) (fun h9 => absurd h9 (by decide))
            refine lv_aload_n hx hb dX9_copy_143 rfl (lv_at hl 2 rfl) ?_
            refine m_get (ci := 7) (v := .int (-9)) (C := RX9) (T := TX9) (N := 11) hx hb hts in_X9_copy_X9 hown hE hM g_x rfl 7 (by decide) (hts (.fieldLink RX9 53 "CallWays2" "latest" "I") (by decide +kernel)) (fun _ h9 => h9) rfl dX9_copy_144 ?_
            exact m_iret hx hb hr hlocks hM hS (Nat.le_refl _) (Nat.le_refl _) dX9_copy_147 (by have hsc : sCopy bk rw fr i to jj k = -9 := (by rw [sCopy_s ⟨hv1, hv2⟩ hjc1 hbk1 hjc2 hbk2 hrw1 hrw2, if_neg c_65]); exact ⟨(by show _ = (if sCopy bk rw fr i to jj k = 0 then _ else _); rw [hsc]; rfl), (by show cRep E _ NO x (nn, ins, nf, fn, bk, rCopy bk rw fr i to jj k, bd, sCopy bk rw fr i to jj k, c2, c3, c4); rw [rCopy_ne (by rw [hsc]; decide), hsc, eM9]; exact (hC.scal hiK).rep), (by rw [eM9]; exact kx nx)⟩)
      · rw [if_neg hv2] at e_r2
        subst e_r2
        refine W.eq (g2 := F0 m 12 ls [.null]) rfl ?_
        refine lv_astoreN (lv' := [(7, .null), (6, .ref s1), (0, .ref x), (1, .int fr), (2, .int i), (3, .int to), (4, .int jj), (5, .int k)]) hx hb dX9_copy_12 hl (by decide) rfl (fun ls hl => ?_)
        refine lv_iload_n hx hb dX9_copy_14 rfl (lv_at hl 3 rfl) ?_
        refine m_calli (va_runS (As := [.int fr]) (rest := []) ⟨hx, hb, hml, hown, hts⟩ (c_X9_isBlock l E M H.size fr) (va_cwS 1 hts gX9_copy_X9_isBlock rfl rfl rfl (by decide +kernel) ⟨Nat.le_of_ble_eq_true rfl, Nat.le_of_ble_eq_true rfl⟩) (m_preS hE hM) rfl rfl hl.1 rfl (lv_room (Nat.le_of_ble_eq_true rfl)) dX9_copy_15 ⟨Nat.le_of_ble_eq_true rfl, Nat.le_of_ble_eq_true rfl⟩) hM hS hA (fun r3 u H locs hw hM hS => ?_)
        obtain ⟨e_r3, eu⟩ := hw
        rw [eu] at hM
        subst e_r3
        refine lv_if_eq (tgt := 28) hx hb dX9_copy_18 (by decide) (fun h9 => False.elim (by revert h9; exact (fun h => bI_eq.mp h hv1))) (fun _ => ?_)
        refine lv_iload_n hx hb dX9_copy_21 rfl (lv_at hl 5 rfl) ?_
        refine m_calli (va_runS (As := [.int to]) (rest := []) ⟨hx, hb, hml, hown, hts⟩ (c_X9_isBlock l E M H.size to) (va_cwS 1 hts gX9_copy_X9_isBlock rfl rfl rfl (by decide +kernel) ⟨Nat.le_of_ble_eq_true rfl, Nat.le_of_ble_eq_true rfl⟩) (m_preS hE hM) rfl rfl hl.1 rfl (lv_room (Nat.le_of_ble_eq_true rfl)) dX9_copy_22 ⟨Nat.le_of_ble_eq_true rfl, Nat.le_of_ble_eq_true rfl⟩) hM hS hA (fun r4 u H locs hw hM hS => ?_)
        obtain ⟨e_r4, eu⟩ := hw
        rw [eu] at hM
        subst e_r4
        refine lv_if_ne (tgt := 36) hx hb dX9_copy_25 (by decide) (fun h9 => False.elim (by revert h9; exact (fun h => hv2 (bI_ne.mp h)))) (fun _ => ?_)
        refine lv_aload_n hx hb dX9_copy_28 rfl (lv_at hl 2 rfl) ?_
        refine lv_iconst (v := -1) hx hb dX9_copy_29 (by decide) ?_
        refine m_put (ci := 7) (v := .int (-1)) (ty := .int) (C := RX9) (T := TX9) (N := 11) hx hb hts in_X9_copy_X9 tyX9 tyX9_ok nmX9 hown hE hM hS g_x rfl 7 (by decide) (hts (.fieldLink RX9 53 "CallWays2" "latest" "I") (by decide +kernel)) (fun _ h9 => h9) rfl (by decide +kernel) rfl rfl (Nat.le_of_ble_eq_true rfl) dX9_copy_30 (fun H locs hM hS => ?_)
        have hM : mOK E.1 (mA M sz) (mUp M x (mO 7 [.ref a1, .ref a2, .ref a3, .ref a4, .int (nI nn), .int (nI nf), .int bd, .int (-1), .int c2, .int c3, .int c4])) H := hM
        obtain ⟨M10, eM10⟩ : ∃ z, z = mUp M x (mO 7 [.ref a1, .ref a2, .ref a3, .ref a4, .int (nI nn), .int (nI nf), .int bd, .int (-1), .int c2, .int c3, .int c4]) := ⟨_, rfl⟩
        rw [← eM10] at hM
        have g_a1_ : M10 a1 = some (mQ E 4 12 fi) := by rw [eM10]; exact mUp_at (m_ne g_a1 g_x (by simp)) g_a1
        have g_a2_ : M10 a2 = some (mQ E 5 10 fb) := by rw [eM10]; exact mUp_at (m_ne g_a2 g_x (by simp)) g_a2
        have g_a3_ : M10 a3 = some (mQ E 6 8 ff) := by rw [eM10]; exact mUp_at (m_ne g_a3 g_x (by simp)) g_a3
        have g_a4_ : M10 a4 = some (mDb E 40 wt) := by rw [eM10]; exact mUp_at (m_ne g_a4 g_x (by simp)) g_a4
        have g_s1_ : M10 s1 = some (mO 5 [.int lane1, .ref v1]) := by rw [eM10]; exact mUp_at (Ne.symm (m_ne g_x g_s1 (by simp))) g_s1
        have g_v1_ : M10 v1 = some (mDb E n1 f1) := by rw [eM10]; exact mUp_at (m_ne g_v1 g_x (by simp)) g_v1
        have g_a1 := g_a1_
        have g_a2 := g_a2_
        have g_a3 := g_a3_
        have g_a4 := g_a4_
        have g_s1 := g_s1_
        have g_v1 := g_v1_
        have g_x : M10 x = some (mO 7 [.ref a1, .ref a2, .ref a3, .ref a4, .int (nI nn), .int (nI nf), .int bd, .int (-1), .int c2, .int c3, .int c4]) := by rw [eM10]; exact mUp_self _ _ _
        refine lv_goto (tgt := 132) hx hb dX9_copy_33 (by decide) ?_
        refine lv_aload_n hx hb dX9_copy_132 rfl (lv_at hl 2 rfl) ?_
        refine m_get (ci := 7) (v := .int (-1)) (C := RX9) (T := TX9) (N := 11) hx hb hts in_X9_copy_X9 hown hE hM g_x rfl 7 (by decide) (hts (.fieldLink RX9 53 "CallWays2" "latest" "I") (by decide +kernel)) (fun _ h9 => h9) rfl dX9_copy_133 ?_
        refine lv_if_ne (tgt := 143) hx hb dX9_copy_136 (by decide) (fun _ => ?_) (fun h9 => absurd h9 (by decide))
        refine lv_aload_n hx hb dX9_copy_143 rfl (lv_at hl 2 rfl) ?_
        refine m_get (ci := 7) (v := .int (-1)) (C := RX9) (T := TX9) (N := 11) hx hb hts in_X9_copy_X9 hown hE hM g_x rfl 7 (by decide) (hts (.fieldLink RX9 53 "CallWays2" "latest" "I") (by decide +kernel)) (fun _ h9 => h9) rfl dX9_copy_144 ?_
        exact m_iret hx hb hr hlocks hM hS (Nat.le_refl _) (Nat.le_refl _) dX9_copy_147 (by have hsc : sCopy bk rw fr i to jj k = -1 := sCopy_b (na2 hv2); exact ⟨(by show _ = (if sCopy bk rw fr i to jj k = 0 then _ else _); rw [hsc]; rfl), (by show cRep E _ NO x (nn, ins, nf, fn, bk, rCopy bk rw fr i to jj k, bd, sCopy bk rw fr i to jj k, c2, c3, c4); rw [rCopy_ne (by rw [hsc]; decide), hsc, eM10]; exact (hC.scal hiK).rep), (by rw [eM10]; exact kx nx)⟩)
  · rw [if_neg hv1] at e_r1
    subst e_r1
    refine W.eq (g2 := F0 m 5 ls [.null]) rfl ?_
    refine lv_astoreN (lv' := [(6, .null), (0, .ref x), (1, .int fr), (2, .int i), (3, .int to), (4, .int jj), (5, .int k)]) hx hb dX9_copy_5 hl (by decide) rfl (fun ls hl => ?_)
    refine lv_aload_n hx hb dX9_copy_7 rfl (lv_at hl 1 rfl) ?_
    refine lv_iload_n hx hb dX9_copy_8 rfl (lv_at hl 4 rfl) ?_
    refine m_callq (va_runV (As := [.int to]) (rest := []) ⟨hx, hb, hml, hown, hts⟩ (c_X9_heldBy l E M H.size x a1 a2 a3 a4 nn nf bd st c2 c3 c4 fi fb ff wt to g_x g_a2) (cwV 1 hts gX9_copy_X9_heldBy rfl rfl rfl (by decide +kernel) ⟨Nat.le_of_ble_eq_true rfl, Nat.le_of_ble_eq_true rfl⟩) (m_preV hE hM g_x rfl) rfl rfl hl.1 rfl (lv_room (Nat.le_of_ble_eq_true rfl)) dX9_copy_9 ⟨Nat.le_of_ble_eq_true rfl, Nat.le_of_ble_eq_true rfl⟩) hM hS hA (fun r2 u H locs hw hM hS => ?_)
    obtain ⟨e_r2, eu⟩ := hw
    rw [eu] at hM
    by_cases hv2 : ¬ to < 0 ∧ ¬ 10 ≤ to
    · rw [if_pos hv2] at e_r2
      obtain ⟨j2, hj2, hij2, hjc2⟩ := vB_ix hv2
      rw [hjc2, hB j2 hj2] at e_r2
      rcases hbk2 : bk j2 with _ | w2
      · rw [hbk2] at e_r2
        replace e_r2 : r2 = none := e_r2
        subst e_r2
        refine W.eq (g2 := F0 m 12 ls [.null]) rfl ?_
        refine lv_astoreN (lv' := [(7, .null), (6, .null), (0, .ref x), (1, .int fr), (2, .int i), (3, .int to), (4, .int jj), (5, .int k)]) hx hb dX9_copy_12 hl (by decide) rfl (fun ls hl => ?_)
        refine lv_iload_n hx hb dX9_copy_14 rfl (lv_at hl 3 rfl) ?_
        refine m_calli (va_runS (As := [.int fr]) (rest := []) ⟨hx, hb, hml, hown, hts⟩ (c_X9_isBlock l E M H.size fr) (va_cwS 1 hts gX9_copy_X9_isBlock rfl rfl rfl (by decide +kernel) ⟨Nat.le_of_ble_eq_true rfl, Nat.le_of_ble_eq_true rfl⟩) (m_preS hE hM) rfl rfl hl.1 rfl (lv_room (Nat.le_of_ble_eq_true rfl)) dX9_copy_15 ⟨Nat.le_of_ble_eq_true rfl, Nat.le_of_ble_eq_true rfl⟩) hM hS hA (fun r3 u H locs hw hM hS => ?_)
        obtain ⟨e_r3, eu⟩ := hw
        rw [eu] at hM
        subst e_r3
        refine lv_if_eq (tgt := 28) hx hb dX9_copy_18 (by decide) (fun _ => ?_) (fun h9 => False.elim (by revert h9; exact (fun h => h (bI_eq.mpr hv1))))
        refine lv_aload_n hx hb dX9_copy_28 rfl (lv_at hl 2 rfl) ?_
        refine lv_iconst (v := -1) hx hb dX9_copy_29 (by decide) ?_
        refine m_put (ci := 7) (v := .int (-1)) (ty := .int) (C := RX9) (T := TX9) (N := 11) hx hb hts in_X9_copy_X9 tyX9 tyX9_ok nmX9 hown hE hM hS g_x rfl 7 (by decide) (hts (.fieldLink RX9 53 "CallWays2" "latest" "I") (by decide +kernel)) (fun _ h9 => h9) rfl (by decide +kernel) rfl rfl (Nat.le_of_ble_eq_true rfl) dX9_copy_30 (fun H locs hM hS => ?_)
        have hM : mOK E.1 (mA M sz) (mUp M x (mO 7 [.ref a1, .ref a2, .ref a3, .ref a4, .int (nI nn), .int (nI nf), .int bd, .int (-1), .int c2, .int c3, .int c4])) H := hM
        obtain ⟨M11, eM11⟩ : ∃ z, z = mUp M x (mO 7 [.ref a1, .ref a2, .ref a3, .ref a4, .int (nI nn), .int (nI nf), .int bd, .int (-1), .int c2, .int c3, .int c4]) := ⟨_, rfl⟩
        rw [← eM11] at hM
        have g_a1_ : M11 a1 = some (mQ E 4 12 fi) := by rw [eM11]; exact mUp_at (m_ne g_a1 g_x (by simp)) g_a1
        have g_a2_ : M11 a2 = some (mQ E 5 10 fb) := by rw [eM11]; exact mUp_at (m_ne g_a2 g_x (by simp)) g_a2
        have g_a3_ : M11 a3 = some (mQ E 6 8 ff) := by rw [eM11]; exact mUp_at (m_ne g_a3 g_x (by simp)) g_a3
        have g_a4_ : M11 a4 = some (mDb E 40 wt) := by rw [eM11]; exact mUp_at (m_ne g_a4 g_x (by simp)) g_a4
        have g_a1 := g_a1_
        have g_a2 := g_a2_
        have g_a3 := g_a3_
        have g_a4 := g_a4_
        have g_x : M11 x = some (mO 7 [.ref a1, .ref a2, .ref a3, .ref a4, .int (nI nn), .int (nI nf), .int bd, .int (-1), .int c2, .int c3, .int c4]) := by rw [eM11]; exact mUp_self _ _ _
        refine lv_goto (tgt := 132) hx hb dX9_copy_33 (by decide) ?_
        refine lv_aload_n hx hb dX9_copy_132 rfl (lv_at hl 2 rfl) ?_
        refine m_get (ci := 7) (v := .int (-1)) (C := RX9) (T := TX9) (N := 11) hx hb hts in_X9_copy_X9 hown hE hM g_x rfl 7 (by decide) (hts (.fieldLink RX9 53 "CallWays2" "latest" "I") (by decide +kernel)) (fun _ h9 => h9) rfl dX9_copy_133 ?_
        refine lv_if_ne (tgt := 143) hx hb dX9_copy_136 (by decide) (fun _ => ?_) (fun h9 => absurd h9 (by decide))
        refine lv_aload_n hx hb dX9_copy_143 rfl (lv_at hl 2 rfl) ?_
        refine m_get (ci := 7) (v := .int (-1)) (C := RX9) (T := TX9) (N := 11) hx hb hts in_X9_copy_X9 hown hE hM g_x rfl 7 (by decide) (hts (.fieldLink RX9 53 "CallWays2" "latest" "I") (by decide +kernel)) (fun _ h9 => h9) rfl dX9_copy_144 ?_
        exact m_iret hx hb hr hlocks hM hS (Nat.le_refl _) (Nat.le_refl _) dX9_copy_147 (by have hsc : sCopy bk rw fr i to jj k = -1 := sCopy_b (na1 hv1); exact ⟨(by show _ = (if sCopy bk rw fr i to jj k = 0 then _ else _); rw [hsc]; rfl), (by show cRep E _ NO x (nn, ins, nf, fn, bk, rCopy bk rw fr i to jj k, bd, sCopy bk rw fr i to jj k, c2, c3, c4); rw [rCopy_ne (by rw [hsc]; decide), hsc, eM11]; exact (hC.scal hiK).rep), (by rw [eM11]; exact kx nx)⟩)
      · rw [hbk2] at e_r2
        replace e_r2 : r2 = some (ra w2) := e_r2
        have hlv2 : live nn ins bk w2 := Or.inl ⟨j2, hj2, hbk2⟩
        rcases hrw2 : rw w2 with ⟨lane2, n2, f2⟩
        obtain ⟨g_s2, g_v2, hva2⟩ := hR w2 (hL w2 hlv2) _ _ _ hrw2
        obtain ⟨hn2, hlane2, hvo2⟩ := hvR w2 hlv2 _ _ _ hrw2
        have hnr2 := nR0 w2 (hL w2 hlv2)
        obtain ⟨s2, es2⟩ : ∃ z, z = ra w2 := ⟨_, rfl⟩
        obtain ⟨v2, ev2⟩ : ∃ z, z = rb w2 := ⟨_, rfl⟩
        rw [← es2, ← ev2] at g_s2
        rw [← ev2] at g_v2 hva2
        rw [← es2] at e_r2
        subst e_r2
        refine W.eq (g2 := F0 m 12 ls [.ref s2]) rfl ?_
        refine lv_astore (lv' := [(7, .ref s2), (6, .null), (0, .ref x), (1, .int fr), (2, .int i), (3, .int to), (4, .int jj), (5, .int k)]) hx hb dX9_copy_12 hl (by decide) rfl (fun ls hl => ?_)
        refine lv_iload_n hx hb dX9_copy_14 rfl (lv_at hl 3 rfl) ?_
        refine m_calli (va_runS (As := [.int fr]) (rest := []) ⟨hx, hb, hml, hown, hts⟩ (c_X9_isBlock l E M H.size fr) (va_cwS 1 hts gX9_copy_X9_isBlock rfl rfl rfl (by decide +kernel) ⟨Nat.le_of_ble_eq_true rfl, Nat.le_of_ble_eq_true rfl⟩) (m_preS hE hM) rfl rfl hl.1 rfl (lv_room (Nat.le_of_ble_eq_true rfl)) dX9_copy_15 ⟨Nat.le_of_ble_eq_true rfl, Nat.le_of_ble_eq_true rfl⟩) hM hS hA (fun r3 u H locs hw hM hS => ?_)
        obtain ⟨e_r3, eu⟩ := hw
        rw [eu] at hM
        subst e_r3
        refine lv_if_eq (tgt := 28) hx hb dX9_copy_18 (by decide) (fun _ => ?_) (fun h9 => False.elim (by revert h9; exact (fun h => h (bI_eq.mpr hv1))))
        refine lv_aload_n hx hb dX9_copy_28 rfl (lv_at hl 2 rfl) ?_
        refine lv_iconst (v := -1) hx hb dX9_copy_29 (by decide) ?_
        refine m_put (ci := 7) (v := .int (-1)) (ty := .int) (C := RX9) (T := TX9) (N := 11) hx hb hts in_X9_copy_X9 tyX9 tyX9_ok nmX9 hown hE hM hS g_x rfl 7 (by decide) (hts (.fieldLink RX9 53 "CallWays2" "latest" "I") (by decide +kernel)) (fun _ h9 => h9) rfl (by decide +kernel) rfl rfl (Nat.le_of_ble_eq_true rfl) dX9_copy_30 (fun H locs hM hS => ?_)
        have hM : mOK E.1 (mA M sz) (mUp M x (mO 7 [.ref a1, .ref a2, .ref a3, .ref a4, .int (nI nn), .int (nI nf), .int bd, .int (-1), .int c2, .int c3, .int c4])) H := hM
        obtain ⟨M12, eM12⟩ : ∃ z, z = mUp M x (mO 7 [.ref a1, .ref a2, .ref a3, .ref a4, .int (nI nn), .int (nI nf), .int bd, .int (-1), .int c2, .int c3, .int c4]) := ⟨_, rfl⟩
        rw [← eM12] at hM
        have g_a1_ : M12 a1 = some (mQ E 4 12 fi) := by rw [eM12]; exact mUp_at (m_ne g_a1 g_x (by simp)) g_a1
        have g_a2_ : M12 a2 = some (mQ E 5 10 fb) := by rw [eM12]; exact mUp_at (m_ne g_a2 g_x (by simp)) g_a2
        have g_a3_ : M12 a3 = some (mQ E 6 8 ff) := by rw [eM12]; exact mUp_at (m_ne g_a3 g_x (by simp)) g_a3
        have g_a4_ : M12 a4 = some (mDb E 40 wt) := by rw [eM12]; exact mUp_at (m_ne g_a4 g_x (by simp)) g_a4
        have g_s2_ : M12 s2 = some (mO 5 [.int lane2, .ref v2]) := by rw [eM12]; exact mUp_at (Ne.symm (m_ne g_x g_s2 (by simp))) g_s2
        have g_v2_ : M12 v2 = some (mDb E n2 f2) := by rw [eM12]; exact mUp_at (m_ne g_v2 g_x (by simp)) g_v2
        have g_a1 := g_a1_
        have g_a2 := g_a2_
        have g_a3 := g_a3_
        have g_a4 := g_a4_
        have g_s2 := g_s2_
        have g_v2 := g_v2_
        have g_x : M12 x = some (mO 7 [.ref a1, .ref a2, .ref a3, .ref a4, .int (nI nn), .int (nI nf), .int bd, .int (-1), .int c2, .int c3, .int c4]) := by rw [eM12]; exact mUp_self _ _ _
        refine lv_goto (tgt := 132) hx hb dX9_copy_33 (by decide) ?_
        refine lv_aload_n hx hb dX9_copy_132 rfl (lv_at hl 2 rfl) ?_
        refine m_get (ci := 7) (v := .int (-1)) (C := RX9) (T := TX9) (N := 11) hx hb hts in_X9_copy_X9 hown hE hM g_x rfl 7 (by decide) (hts (.fieldLink RX9 53 "CallWays2" "latest" "I") (by decide +kernel)) (fun _ h9 => h9) rfl dX9_copy_133 ?_
        refine lv_if_ne (tgt := 143) hx hb dX9_copy_136 (by decide) (fun _ => ?_) (fun h9 => absurd h9 (by decide))
        refine lv_aload_n hx hb dX9_copy_143 rfl (lv_at hl 2 rfl) ?_
        refine m_get (ci := 7) (v := .int (-1)) (C := RX9) (T := TX9) (N := 11) hx hb hts in_X9_copy_X9 hown hE hM g_x rfl 7 (by decide) (hts (.fieldLink RX9 53 "CallWays2" "latest" "I") (by decide +kernel)) (fun _ h9 => h9) rfl dX9_copy_144 ?_
        exact m_iret hx hb hr hlocks hM hS (Nat.le_refl _) (Nat.le_refl _) dX9_copy_147 (by have hsc : sCopy bk rw fr i to jj k = -1 := sCopy_b (na1 hv1); exact ⟨(by show _ = (if sCopy bk rw fr i to jj k = 0 then _ else _); rw [hsc]; rfl), (by show cRep E _ NO x (nn, ins, nf, fn, bk, rCopy bk rw fr i to jj k, bd, sCopy bk rw fr i to jj k, c2, c3, c4); rw [rCopy_ne (by rw [hsc]; decide), hsc, eM12]; exact (hC.scal hiK).rep), (by rw [eM12]; exact kx nx)⟩)
    · rw [if_neg hv2] at e_r2
      subst e_r2
      refine W.eq (g2 := F0 m 12 ls [.null]) rfl ?_
      refine lv_astoreN (lv' := [(7, .null), (6, .null), (0, .ref x), (1, .int fr), (2, .int i), (3, .int to), (4, .int jj), (5, .int k)]) hx hb dX9_copy_12 hl (by decide) rfl (fun ls hl => ?_)
      refine lv_iload_n hx hb dX9_copy_14 rfl (lv_at hl 3 rfl) ?_
      refine m_calli (va_runS (As := [.int fr]) (rest := []) ⟨hx, hb, hml, hown, hts⟩ (c_X9_isBlock l E M H.size fr) (va_cwS 1 hts gX9_copy_X9_isBlock rfl rfl rfl (by decide +kernel) ⟨Nat.le_of_ble_eq_true rfl, Nat.le_of_ble_eq_true rfl⟩) (m_preS hE hM) rfl rfl hl.1 rfl (lv_room (Nat.le_of_ble_eq_true rfl)) dX9_copy_15 ⟨Nat.le_of_ble_eq_true rfl, Nat.le_of_ble_eq_true rfl⟩) hM hS hA (fun r3 u H locs hw hM hS => ?_)
      obtain ⟨e_r3, eu⟩ := hw
      rw [eu] at hM
      subst e_r3
      refine lv_if_eq (tgt := 28) hx hb dX9_copy_18 (by decide) (fun _ => ?_) (fun h9 => False.elim (by revert h9; exact (fun h => h (bI_eq.mpr hv1))))
      refine lv_aload_n hx hb dX9_copy_28 rfl (lv_at hl 2 rfl) ?_
      refine lv_iconst (v := -1) hx hb dX9_copy_29 (by decide) ?_
      refine m_put (ci := 7) (v := .int (-1)) (ty := .int) (C := RX9) (T := TX9) (N := 11) hx hb hts in_X9_copy_X9 tyX9 tyX9_ok nmX9 hown hE hM hS g_x rfl 7 (by decide) (hts (.fieldLink RX9 53 "CallWays2" "latest" "I") (by decide +kernel)) (fun _ h9 => h9) rfl (by decide +kernel) rfl rfl (Nat.le_of_ble_eq_true rfl) dX9_copy_30 (fun H locs hM hS => ?_)
      have hM : mOK E.1 (mA M sz) (mUp M x (mO 7 [.ref a1, .ref a2, .ref a3, .ref a4, .int (nI nn), .int (nI nf), .int bd, .int (-1), .int c2, .int c3, .int c4])) H := hM
      obtain ⟨M13, eM13⟩ : ∃ z, z = mUp M x (mO 7 [.ref a1, .ref a2, .ref a3, .ref a4, .int (nI nn), .int (nI nf), .int bd, .int (-1), .int c2, .int c3, .int c4]) := ⟨_, rfl⟩
      rw [← eM13] at hM
      have g_a1_ : M13 a1 = some (mQ E 4 12 fi) := by rw [eM13]; exact mUp_at (m_ne g_a1 g_x (by simp)) g_a1
      have g_a2_ : M13 a2 = some (mQ E 5 10 fb) := by rw [eM13]; exact mUp_at (m_ne g_a2 g_x (by simp)) g_a2
      have g_a3_ : M13 a3 = some (mQ E 6 8 ff) := by rw [eM13]; exact mUp_at (m_ne g_a3 g_x (by simp)) g_a3
      have g_a4_ : M13 a4 = some (mDb E 40 wt) := by rw [eM13]; exact mUp_at (m_ne g_a4 g_x (by simp)) g_a4
      have g_a1 := g_a1_
      have g_a2 := g_a2_
      have g_a3 := g_a3_
      have g_a4 := g_a4_
      have g_x : M13 x = some (mO 7 [.ref a1, .ref a2, .ref a3, .ref a4, .int (nI nn), .int (nI nf), .int bd, .int (-1), .int c2, .int c3, .int c4]) := by rw [eM13]; exact mUp_self _ _ _
      refine lv_goto (tgt := 132) hx hb dX9_copy_33 (by decide) ?_
      refine lv_aload_n hx hb dX9_copy_132 rfl (lv_at hl 2 rfl) ?_
      refine m_get (ci := 7) (v := .int (-1)) (C := RX9) (T := TX9) (N := 11) hx hb hts in_X9_copy_X9 hown hE hM g_x rfl 7 (by decide) (hts (.fieldLink RX9 53 "CallWays2" "latest" "I") (by decide +kernel)) (fun _ h9 => h9) rfl dX9_copy_133 ?_
      refine lv_if_ne (tgt := 143) hx hb dX9_copy_136 (by decide) (fun _ => ?_) (fun h9 => absurd h9 (by decide))
      refine lv_aload_n hx hb dX9_copy_143 rfl (lv_at hl 2 rfl) ?_
      refine m_get (ci := 7) (v := .int (-1)) (C := RX9) (T := TX9) (N := 11) hx hb hts in_X9_copy_X9 hown hE hM g_x rfl 7 (by decide) (hts (.fieldLink RX9 53 "CallWays2" "latest" "I") (by decide +kernel)) (fun _ h9 => h9) rfl dX9_copy_144 ?_
      exact m_iret hx hb hr hlocks hM hS (Nat.le_refl _) (Nat.le_refl _) dX9_copy_147 (by have hsc : sCopy bk rw fr i to jj k = -1 := sCopy_b (na1 hv1); exact ⟨(by show _ = (if sCopy bk rw fr i to jj k = 0 then _ else _); rw [hsc]; rfl), (by show cRep E _ NO x (nn, ins, nf, fn, bk, rCopy bk rw fr i to jj k, bd, sCopy bk rw fr i to jj k, c2, c3, c4); rw [rCopy_ne (by rw [hsc]; decide), hsc, eM13]; exact (hC.scal hiK).rep), (by rw [eM13]; exact kx nx)⟩)
